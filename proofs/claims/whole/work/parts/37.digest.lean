/-- numbers one after the other -/
def dgB (g : Nat → Int32) (d : Int64) : Nat → Int64
  | 0 => d
  | n + 1 => mix (dgB g d n) (g n)
def dgCs (len : Nat → Int32) (sz : Nat → Nat → Nat) (f : Nat → Nat → Nat → Int32) (nc : Nat → Nat) (ct cn : Nat → Nat → Int32) (d : Int64) : Nat → Int64
  | 0 => d
  | n + 1 => dgClip (len n) (sz n) (f n) (nc n) (ct n) (cn n) (dgCs len sz f nc ct cn d n)
def dgSs (ln : Nat → Int32) (pt : Nat → Nat → Int32) (d : Int64) : Nat → Int64
  | 0 => d
  | n + 1 => dgB (factS (ln n) (pt n)) (dgSs ln pt d n) 13
def dgAll (bf : Nat → Int32) (nC : Nat) (len : Nat → Int32) (sz : Nat → Nat → Nat) (f : Nat → Nat → Nat → Int32) (nc : Nat → Nat) (ct cn : Nat → Nat → Int32) (nS : Nat) (ln : Nat → Int32) (pt : Nat → Nat → Int32) (nf : Nat → Nat → Int32) (cnt : Int32) (k : Nat) : Int64 :=
  dgN nf (mix (dgSs ln pt (mix (dgCs len sz f nc ct cn (mix (dgB bf 401 4) (nI nC)) nC) (nI nS)) nS) cnt) k
theorem FX2.blind {X Y : State → Prop} (hX : ∀ (a : Array Value) (U : State) (g : JFrame) (mk : MethodId), X U → X (U.calling g mk a)) (hY : ∀ (a : Array Value) (U : State) (g : JFrame) (mk : MethodId), Y U → Y (U.calling g mk a)) : ∀ (a : Array Value) (U : State) (g : JFrame) (mk : MethodId), X U ∧ Y U → X (U.calling g mk a) ∧ Y (U.calling g mk a) := fun a U g mk h => ⟨hX a U g mk h.1, hY a U g mk h.2⟩
set_option maxHeartbeats 4000000 in
set_option maxRecDepth 100000 in
theorem c_digest (l : Launch) (D : va_G) {xo lc lt bo yo no : Nat} {ec nC et nS ba k : Nat} {m1 m2 cnt : Int32} {sl ck cl ta nc : Nat → Nat} {pt : Nat → Nat → Int32} {len : Nat → Int32} {q b t r a sz : Nat → Nat → Nat} {f : Nat → Nat → Nat → Int32} {ct cn : Nat → Nat → Int32} {g h : Nat → Nat} {bf : Nat → Int32} {nf : Nat → Nat → Int32} (hnC : nC ≤ 6) (hnS : nS ≤ 10) (hk : k ≤ 100) (h16 : ∀ i, i < nC → ∀ j, j < 4 → sz i j ≤ 16) (hnc : ∀ i, i < nC → nc i ≤ 8) (hp : ∀ i, i < nS → 0 < pt i 5) (h9 : ∀ i, i < nS → pt i 9 = 0 ∨ pt i 9 = 1) (h10 : ∀ i, i < nS → pt i 10 = 0 ∨ pt i 10 = 1) : Met l yX5_digest (ws_ yX5_digest cX5_digest 5 (some .long)) ({ frames := 4, cells := 0, slots := 0, locals := 94 } : Room) (va_Pc [.ref xo] (PXW D [oO xo 5 [.ref lc, .ref lt, .ref bo, .ref yo, .ref no], oO lc 7 [.int m1, .ref ec, .int (nI nC)], oO lt 7 [.int m2, .ref et, .int (nI nS)], oO bo 2 [.ref ba, .int (nI 4)], aI D ba 4 bf, oO no 1 [.ref (g 0), .ref (g 1), .ref (g 2), .ref (g 3), .int cnt], oO (g 0) 2 [.ref (h 0), .int (nI k)], oO (g 1) 2 [.ref (h 1), .int (nI k)], oO (g 2) 2 [.ref (h 2), .int (nI k)], oO (g 3) 2 [.ref (h 3), .int (nI k)], aI D (h 0) 100 (nf 0), aI D (h 1) 100 (nf 1), aI D (h 2) 100 (nf 2), aI D (h 3) 100 (nf 3)] (fun U => FX D nC (fun i => [aO D ec 10 (lsF cl nC), oO (cl i) 0 [.int (len i), .ref (ta i), .ref ((q i) 0), .ref ((q i) 1)], aT D (ta i) 4 (tkF (t i)), oO ((q i) 0) 2 [.ref ((b i) 0), .int (nI (nc i))], oO ((q i) 1) 2 [.ref ((b i) 1), .int (nI (nc i))], aI D ((b i) 0) 8 (ct i), aI D ((b i) 1) 8 (cn i), oO ((t i) 0) 4 [.ref ((r i) 0), .ref ((r i) 1), .ref ((r i) 2)], oO ((r i) 0) 2 [.ref ((a i) 0), .int (nI ((sz i) 0))], oO ((r i) 1) 2 [.ref ((a i) 1), .int (nI ((sz i) 0))], oO ((r i) 2) 2 [.ref ((a i) 2), .int (nI ((sz i) 0))], aI D ((a i) 0) 16 ((f i) 0), aI D ((a i) 1) 16 ((f i) 1), aI D ((a i) 2) 16 ((f i) 2), oO ((t i) 1) 4 [.ref ((r i) 3), .ref ((r i) 4), .ref ((r i) 5)], oO ((r i) 3) 2 [.ref ((a i) 3), .int (nI ((sz i) 1))], oO ((r i) 4) 2 [.ref ((a i) 4), .int (nI ((sz i) 1))], oO ((r i) 5) 2 [.ref ((a i) 5), .int (nI ((sz i) 1))], aI D ((a i) 3) 16 ((f i) 3), aI D ((a i) 4) 16 ((f i) 4), aI D ((a i) 5) 16 ((f i) 5), oO ((t i) 2) 4 [.ref ((r i) 6), .ref ((r i) 7), .ref ((r i) 8)], oO ((r i) 6) 2 [.ref ((a i) 6), .int (nI ((sz i) 2))], oO ((r i) 7) 2 [.ref ((a i) 7), .int (nI ((sz i) 2))], oO ((r i) 8) 2 [.ref ((a i) 8), .int (nI ((sz i) 2))], aI D ((a i) 6) 16 ((f i) 6), aI D ((a i) 7) 16 ((f i) 7), aI D ((a i) 8) 16 ((f i) 8), oO ((t i) 3) 4 [.ref ((r i) 9), .ref ((r i) 10), .ref ((r i) 11)], oO ((r i) 9) 2 [.ref ((a i) 9), .int (nI ((sz i) 3))], oO ((r i) 10) 2 [.ref ((a i) 10), .int (nI ((sz i) 3))], oO ((r i) 11) 2 [.ref ((a i) 11), .int (nI ((sz i) 3))], aI D ((a i) 9) 16 ((f i) 9), aI D ((a i) 10) 16 ((f i) 10), aI D ((a i) 11) 16 ((f i) 11)]) (fun _ => False) U ∧ FX D nS (fun i => [aO D et 10 (lsF sl nS), oO (sl i) 3 [.ref (cl (ck i)), .int (pt i 0), .int (pt i 1), .int (pt i 3), .int (pt i 4), .int (pt i 5), .int (pt i 6), .int (pt i 7), .int (pt i 8), .int (pt i 9), .int (pt i 10), .int (pt i 11), .int (pt i 12)], oO (cl (ck i)) 0 [.int (len (ck i)), .ref (ta (ck i)), .ref (q (ck i) 0), .ref (q (ck i) 1)]]) (fun _ => False) U))) (vp_Sl (fun v => v = dgAll bf nC len sz f nc ct cn nS (fun z => len (ck z)) pt nf cnt k)) 0 0 (fun _ => False) := by
  refine Met.ofW (cc := cX5_digest) (maxL := 5) (ret := (some .long)) (by decide) rfl ?_
  intro p e s m args below meth c s₁ B hml hv
  obtain ⟨rfl, ⟨hG, hP⟩, hX⟩ := hv
  have hx := B.exec
  have hb := B.bytes
  have hr := B.returns
  have hts : ∀ w ∈ wsL_law, w.before _ s = true := fun w h => atoms_spec (ws := (ws_ yX5_digest cX5_digest 5 (some .long))) B.pre w (List.mem_cons_of_mem _ h)
  have hown : s.vm.findClass RX5 = some m.cls := findClass_of_methodNamed B.named
  have hlk := B.notSynchronized
  have hC : CallFix p m c cX5_digest 5 s _ wsL_law RX5 := ⟨hx, hb, hml, hown, hts⟩
  have hl := lv_entry ([.ref xo]) (n := 5) (Nat.le_of_ble_eq_true rfl)
  rw [lg_entry_eq]
  generalize (lg_sl ([.ref xo]) ++ List.replicate (5 - (lg_sl ([.ref xo])).length) Slot.unset).toArray = ls at hl ⊢
  have hl : lv_has ls 5 [(0, .ref xo)] := hl
  refine lv_ldc2 hx hb hown (hts _ mH_X5_282) dX5_digest_0 ?_
  refine lv_lstore_n (lv' := [(1, .long 401), (0, .ref xo)]) hx hb dX5_digest_3 rfl hl (by decide) rfl (fun ls hl => ?_)
  refine lv_iconst (v := 0) hx hb dX5_digest_4 (by decide) ?_
  refine lv_istore_n (lv' := [(3, .int 0), (1, .long 401), (0, .ref xo)]) hx hb dX5_digest_5 rfl hl (by decide) rfl (fun ls hl => ?_)
  have loop6 : ∀ (d9 : Nat) (i : Nat), (4 - i) < d9 → (i ≤ 4) → ∀ (ls : Array Slot), lv_has ls 5 [(0, .ref xo), (1, .long (dgB bf 401 i)), (3, .int (nI i))] → W p l e ({ frames := 4, cells := 0, slots := 0, locals := 94 } : Room) s m ([.ref xo] : List Value).toArray below meth c s.heap [] 0 0 (MQ below (vp_Sl (fun v => v = dgAll bf nC len sz f nc ct cn nS (fun z => len (ck z)) pt nf cnt k)) ([.ref xo] : List Value).toArray s 0 0 (fun _ => False)) (F0 m 6 ls []) := by
    intro d9
    induction d9 with
    | zero => intro i hd; exact absurd hd (Nat.not_lt_zero _)
    | succ d9 ih6 =>
      intro i hd6 hi ls hl
      refine lv_iload_n hx hb dX5_digest_6 rfl (lv_at hl 2 rfl) ?_
      refine lv_iconst (v := 4) hx hb dX5_digest_7 (by decide) ?_
      refine lv_icmp_ge (tgt := 30) hx hb dX5_digest_8 (by decide) (fun c8 => ?_) (fun c8 => ?_)
      · skip
        have n8 := (nI_leI (a := 4) (b := i) (by omega) (by omega)).mp c8
        have hi9 : i = 4 := by omega
        subst i
        refine lv_lload_n hx hb dX5_digest_30 rfl (lv_at hl 1 rfl) ?_
        refine lv_aload_n hx hb dX5_digest_31 rfl (lv_at hl 0 rfl) ?_
        refine va_get (D := D) (ci := 5) (v := .ref lc) (C := RX5) (T := TX5) (N := 5) hx hb hts inlX5 hown hG.K hP 0 rfl rfl 0 (by decide) (hts _ mF_X5_10) (fun _ h9 => h9) rfl dX5_digest_32 ?_
        have hP9 := hP.sub (ws' := [oO lc 7 [.int m1, .ref ec, .int (nI nC)]]) [1] rfl
        refine vp_callSi (pV (rest := [.long (dgB bf 401 4)]) (qc := (RJx4a65c, TJx4a65c, 3)) [] 0 hC (c_list_size l D (lo := lc) (mc := m1) (ea := ec) (n := nC) ) rfl (hP 1 _ rfl) (gV mM_X5_52 mI_Jx4a65c_size_8abf5 mS_Jx4a65c_size_8abf5 mN_Jx4a65c mC_Jx4a65c_size_8abf5) (by decide +kernel) rfl rfl ⟨Nat.le_of_ble_eq_true rfl, Nat.le_of_ble_eq_true rfl⟩ hG hP9 rfl hl.1 rfl (Nat.le_of_ble_eq_true rfl) dX5_digest_35 ⟨Nat.le_of_ble_eq_true rfl, Nat.le_of_ble_eq_true rfl⟩) (fun r35 h35 => ?_)
        obtain rfl : r35 = (nI nC) := h35
        have hP9 : va_P D cls [] s.heap := fun k q h => by simp at h
        refine vp_callSl (pS (rest := []) [.long (dgB bf 401 4), .int (nI nC)] 2 hC (c_mixed l D (d := dgB bf 401 4) (x := nI nC) ) (gS mM_X5_284 mT_X5_mixed mN_X5 mC_X5_mixed) (by decide +kernel) rfl rfl ⟨Nat.le_of_ble_eq_true rfl, Nat.le_of_ble_eq_true rfl⟩ hG hP9 rfl hl.1 rfl (Nat.le_of_ble_eq_true rfl) dX5_digest_38 ⟨Nat.le_of_ble_eq_true rfl, Nat.le_of_ble_eq_true rfl⟩) (fun r38 h38 => ?_)
        obtain rfl : r38 = (mix (dgB bf 401 4) (nI nC)) := h38
        refine lv_lstore_n (lv' := [(1, .long (mix (dgB bf 401 4) (nI nC))), (0, .ref xo), (3, .int (nI 4))]) hx hb dX5_digest_41 rfl hl (by decide) rfl (fun ls hl => ?_)
        refine lv_iconst (v := 0) hx hb dX5_digest_42 (by decide) ?_
        refine lv_istore_n (lv' := [(3, .int 0), (1, .long (mix (dgB bf 401 4) (nI nC))), (0, .ref xo)]) hx hb dX5_digest_43 rfl hl (by decide) rfl (fun ls hl => ?_)
        have loop44 : ∀ (d9 : Nat) (i : Nat), (nC - i) < d9 → (i ≤ nC) → ∀ (ls : Array Slot), lv_has ls 5 [(0, .ref xo), (1, .long (dgCs len sz f nc ct cn (mix (dgB bf 401 4) (nI nC)) i)), (3, .int (nI i))] → W p l e ({ frames := 4, cells := 0, slots := 0, locals := 94 } : Room) s m ([.ref xo] : List Value).toArray below meth c s.heap [] 0 0 (MQ below (vp_Sl (fun v => v = dgAll bf nC len sz f nc ct cn nS (fun z => len (ck z)) pt nf cnt k)) ([.ref xo] : List Value).toArray s 0 0 (fun _ => False)) (F0 m 44 ls []) := by
          intro d9
          induction d9 with
          | zero => intro i hd; exact absurd hd (Nat.not_lt_zero _)
          | succ d9 ih44 =>
            intro i hd44 hi ls hl
            refine lv_iload_n hx hb dX5_digest_44 rfl (lv_at hl 2 rfl) ?_
            refine lv_aload_n hx hb dX5_digest_45 rfl (lv_at hl 0 rfl) ?_
            refine va_get (D := D) (ci := 5) (v := .ref lc) (C := RX5) (T := TX5) (N := 5) hx hb hts inlX5 hown hG.K hP 0 rfl rfl 0 (by decide) (hts _ mF_X5_10) (fun _ h9 => h9) rfl dX5_digest_46 ?_
            have hP9 := hP.sub (ws' := [oO lc 7 [.int m1, .ref ec, .int (nI nC)]]) [1] rfl
            refine vp_callSi (pV (rest := [.int (nI i)]) (qc := (RJx4a65c, TJx4a65c, 3)) [] 0 hC (c_list_size l D (lo := lc) (mc := m1) (ea := ec) (n := nC) ) rfl (hP 1 _ rfl) (gV mM_X5_52 mI_Jx4a65c_size_8abf5 mS_Jx4a65c_size_8abf5 mN_Jx4a65c mC_Jx4a65c_size_8abf5) (by decide +kernel) rfl rfl ⟨Nat.le_of_ble_eq_true rfl, Nat.le_of_ble_eq_true rfl⟩ hG hP9 rfl hl.1 rfl (Nat.le_of_ble_eq_true rfl) dX5_digest_49 ⟨Nat.le_of_ble_eq_true rfl, Nat.le_of_ble_eq_true rfl⟩) (fun r49 h49 => ?_)
            obtain rfl : r49 = (nI nC) := h49
            refine lv_icmp_ge (tgt := 77) hx hb dX5_digest_52 (by decide) (fun c52 => ?_) (fun c52 => ?_)
            · skip
              have n52 := (nI_leI (a := nC) (b := i) (by omega) (by omega)).mp c52
              have hi9 : i = nC := by omega
              subst i
              refine lv_lload_n hx hb dX5_digest_77 rfl (lv_at hl 1 rfl) ?_
              refine lv_aload_n hx hb dX5_digest_78 rfl (lv_at hl 0 rfl) ?_
              refine va_get (D := D) (ci := 5) (v := .ref lt) (C := RX5) (T := TX5) (N := 5) hx hb hts inlX5 hown hG.K hP 0 rfl rfl 1 (by decide) (hts _ mF_X5_16) (fun _ h9 => h9) rfl dX5_digest_79 ?_
              have hP9 := hP.sub (ws' := [oO lt 7 [.int m2, .ref et, .int (nI nS)]]) [2] rfl
              refine vp_callSi (pV (rest := [.long (dgCs len sz f nc ct cn (mix (dgB bf 401 4) (nI nC)) nC)]) (qc := (RJx4a65c, TJx4a65c, 3)) [] 0 hC (c_list_size l D (lo := lt) (mc := m2) (ea := et) (n := nS) ) rfl (hP 2 _ rfl) (gV mM_X5_52 mI_Jx4a65c_size_8abf5 mS_Jx4a65c_size_8abf5 mN_Jx4a65c mC_Jx4a65c_size_8abf5) (by decide +kernel) rfl rfl ⟨Nat.le_of_ble_eq_true rfl, Nat.le_of_ble_eq_true rfl⟩ hG hP9 rfl hl.1 rfl (Nat.le_of_ble_eq_true rfl) dX5_digest_82 ⟨Nat.le_of_ble_eq_true rfl, Nat.le_of_ble_eq_true rfl⟩) (fun r82 h82 => ?_)
              obtain rfl : r82 = (nI nS) := h82
              have hP9 : va_P D cls [] s.heap := fun k q h => by simp at h
              refine vp_callSl (pS (rest := []) [.long (dgCs len sz f nc ct cn (mix (dgB bf 401 4) (nI nC)) nC), .int (nI nS)] 2 hC (c_mixed l D (d := dgCs len sz f nc ct cn (mix (dgB bf 401 4) (nI nC)) nC) (x := nI nS) ) (gS mM_X5_284 mT_X5_mixed mN_X5 mC_X5_mixed) (by decide +kernel) rfl rfl ⟨Nat.le_of_ble_eq_true rfl, Nat.le_of_ble_eq_true rfl⟩ hG hP9 rfl hl.1 rfl (Nat.le_of_ble_eq_true rfl) dX5_digest_85 ⟨Nat.le_of_ble_eq_true rfl, Nat.le_of_ble_eq_true rfl⟩) (fun r85 h85 => ?_)
              obtain rfl : r85 = (mix (dgCs len sz f nc ct cn (mix (dgB bf 401 4) (nI nC)) nC) (nI nS)) := h85
              refine lv_lstore_n (lv' := [(1, .long (mix (dgCs len sz f nc ct cn (mix (dgB bf 401 4) (nI nC)) nC) (nI nS))), (0, .ref xo), (3, .int (nI nC))]) hx hb dX5_digest_88 rfl hl (by decide) rfl (fun ls hl => ?_)
              refine lv_iconst (v := 0) hx hb dX5_digest_89 (by decide) ?_
              refine lv_istore_n (lv' := [(3, .int 0), (1, .long (mix (dgCs len sz f nc ct cn (mix (dgB bf 401 4) (nI nC)) nC) (nI nS))), (0, .ref xo)]) hx hb dX5_digest_90 rfl hl (by decide) rfl (fun ls hl => ?_)
              have loop91 : ∀ (d9 : Nat) (i : Nat), (nS - i) < d9 → (i ≤ nS) → ∀ (ls : Array Slot), lv_has ls 5 [(0, .ref xo), (1, .long (dgSs (fun z => len (ck z)) pt (mix (dgCs len sz f nc ct cn (mix (dgB bf 401 4) (nI nC)) nC) (nI nS)) i)), (3, .int (nI i))] → W p l e ({ frames := 4, cells := 0, slots := 0, locals := 94 } : Room) s m ([.ref xo] : List Value).toArray below meth c s.heap [] 0 0 (MQ below (vp_Sl (fun v => v = dgAll bf nC len sz f nc ct cn nS (fun z => len (ck z)) pt nf cnt k)) ([.ref xo] : List Value).toArray s 0 0 (fun _ => False)) (F0 m 91 ls []) := by
                intro d9
                induction d9 with
                | zero => intro i hd; exact absurd hd (Nat.not_lt_zero _)
                | succ d9 ih91 =>
                  intro i hd91 hi ls hl
                  refine lv_iload_n hx hb dX5_digest_91 rfl (lv_at hl 2 rfl) ?_
                  refine lv_aload_n hx hb dX5_digest_92 rfl (lv_at hl 0 rfl) ?_
                  refine va_get (D := D) (ci := 5) (v := .ref lt) (C := RX5) (T := TX5) (N := 5) hx hb hts inlX5 hown hG.K hP 0 rfl rfl 1 (by decide) (hts _ mF_X5_16) (fun _ h9 => h9) rfl dX5_digest_93 ?_
                  have hP9 := hP.sub (ws' := [oO lt 7 [.int m2, .ref et, .int (nI nS)]]) [2] rfl
                  refine vp_callSi (pV (rest := [.int (nI i)]) (qc := (RJx4a65c, TJx4a65c, 3)) [] 0 hC (c_list_size l D (lo := lt) (mc := m2) (ea := et) (n := nS) ) rfl (hP 2 _ rfl) (gV mM_X5_52 mI_Jx4a65c_size_8abf5 mS_Jx4a65c_size_8abf5 mN_Jx4a65c mC_Jx4a65c_size_8abf5) (by decide +kernel) rfl rfl ⟨Nat.le_of_ble_eq_true rfl, Nat.le_of_ble_eq_true rfl⟩ hG hP9 rfl hl.1 rfl (Nat.le_of_ble_eq_true rfl) dX5_digest_96 ⟨Nat.le_of_ble_eq_true rfl, Nat.le_of_ble_eq_true rfl⟩) (fun r96 h96 => ?_)
                  obtain rfl : r96 = (nI nS) := h96
                  refine lv_icmp_ge (tgt := 145) hx hb dX5_digest_99 (by decide) (fun c99 => ?_) (fun c99 => ?_)
                  · skip
                    have n99 := (nI_leI (a := nS) (b := i) (by omega) (by omega)).mp c99
                    have hi9 : i = nS := by omega
                    subst i
                    refine lv_aload_n hx hb dX5_digest_145 rfl (lv_at hl 0 rfl) ?_
                    refine va_get (D := D) (ci := 5) (v := .ref no) (C := RX5) (T := TX5) (N := 5) hx hb hts inlX5 hown hG.K hP 0 rfl rfl 4 (by decide) (hts _ mF_X5_37) (fun _ h9 => h9) rfl dX5_digest_146 ?_
                    refine lv_lload_n hx hb dX5_digest_149 rfl (lv_at hl 1 rfl) ?_
                    have hP9 := hP.sub (ws' := [oO no 1 [.ref (g 0), .ref (g 1), .ref (g 2), .ref (g 3), .int cnt], oO (g 0) 2 [.ref (h 0), .int (nI k)], oO (g 1) 2 [.ref (h 1), .int (nI k)], oO (g 2) 2 [.ref (h 2), .int (nI k)], oO (g 3) 2 [.ref (h 3), .int (nI k)], aI D (h 0) 100 (nf 0), aI D (h 1) 100 (nf 1), aI D (h 2) 100 (nf 2), aI D (h 3) 100 (nf 3)]) [5, 6, 7, 8, 9, 10, 11, 12, 13] rfl
                    refine vp_callSl (pV (rest := []) (qc := (RX1, TX1, 5)) [.long (dgSs (fun z => len (ck z)) pt (mix (dgCs len sz f nc ct cn (mix (dgB bf 401 4) (nI nC)) nC) (nI nS)) nS)] 1 hC (c_Notes_mixed l D (g := g) (h := h) (f := nf) (no := no) (d := dgSs (fun z => len (ck z)) pt (mix (dgCs len sz f nc ct cn (mix (dgB bf 401 4) (nI nC)) nC) (nI nS)) nS) (cnt := cnt) (k := k) (by omega)) rfl (hP 5 _ rfl) (gV mM_X5_292 mI_X1_mixedInto mS_X1_mixedInto mN_X1 mC_X1_mixedInto) (by decide +kernel) rfl rfl ⟨Nat.le_of_ble_eq_true rfl, Nat.le_of_ble_eq_true rfl⟩ hG hP9 rfl hl.1 rfl (Nat.le_of_ble_eq_true rfl) dX5_digest_150 ⟨Nat.le_of_ble_eq_true rfl, Nat.le_of_ble_eq_true rfl⟩) (fun r150 h150 => ?_)
                    obtain rfl : r150 = (dgN nf (mix (dgSs (fun z => len (ck z)) pt (mix (dgCs len sz f nc ct cn (mix (dgB bf 401 4) (nI nC)) nC) (nI nS)) nS) cnt) k) := h150
                    refine Rl hx hb hr hlk ?_ dX5_digest_153
                    exact rfl
                  · skip
                    have n99 := mt (nI_leI (a := nS) (b := i) (by omega) (by omega)).mpr c99
                    have hW : va_P D cls [aO D et 10 (lsF sl nS), oO (sl i) 3 [.ref (cl (ck i)), .int (pt i 0), .int (pt i 1), .int (pt i 3), .int (pt i 4), .int (pt i 5), .int (pt i 6), .int (pt i 7), .int (pt i 8), .int (pt i 9), .int (pt i 10), .int (pt i 11), .int (pt i 12)], oO (cl (ck i)) 0 [.int (len (ck i)), .ref (ta (ck i)), .ref (q (ck i) 0), .ref (q (ck i) 1)]] s.heap := (hX.2 i (by omega)).1
                    refine lv_iconst (v := 0) hx hb dX5_digest_102 (by decide) ?_
                    refine lv_istore (lv' := [(4, .int 0), (0, .ref xo), (1, .long (dgSs (fun z => len (ck z)) pt (mix (dgCs len sz f nc ct cn (mix (dgB bf 401 4) (nI nC)) nC) (nI nS)) i)), (3, .int (nI i))]) hx hb dX5_digest_103 hl (by decide) rfl (fun ls hl => ?_)
                    have loop105 : ∀ (d9 : Nat) (w : Nat), (13 - w) < d9 → (w ≤ 13) → ∀ (ls : Array Slot), lv_has ls 5 [(0, .ref xo), (1, .long (dgB (factS (len (ck i)) (pt i)) (dgSs (fun z => len (ck z)) pt (mix (dgCs len sz f nc ct cn (mix (dgB bf 401 4) (nI nC)) nC) (nI nS)) i) w)), (3, .int (nI i)), (4, .int (nI w))] → W p l e ({ frames := 4, cells := 0, slots := 0, locals := 94 } : Room) s m ([.ref xo] : List Value).toArray below meth c s.heap [] 0 0 (MQ below (vp_Sl (fun v => v = dgAll bf nC len sz f nc ct cn nS (fun z => len (ck z)) pt nf cnt k)) ([.ref xo] : List Value).toArray s 0 0 (fun _ => False)) (F0 m 105 ls []) := by
                      intro d9
                      induction d9 with
                      | zero => intro w hd; exact absurd hd (Nat.not_lt_zero _)
                      | succ d9 ih105 =>
                        intro w hd105 hw ls hl
                        refine lv_iload hx hb dX5_digest_105 (lv_at hl 3 rfl) ?_
                        refine lv_bipush (v := 13) hx hb dX5_digest_107 (by decide) ?_
                        refine lv_icmp_ge (tgt := 139) hx hb dX5_digest_109 (by decide) (fun c109 => ?_) (fun c109 => ?_)
                        · skip
                          have n109 := (nI_leI (a := 13) (b := w) (by omega) (by omega)).mp c109
                          have hw9 : w = 13 := by omega
                          subst w
                          refine lv_iinc (v := nI (i + 1)) (lv' := [(3, .int (nI (i + 1))), (0, .ref xo), (1, .long (dgB (factS (len (ck i)) (pt i)) (dgSs (fun z => len (ck z)) pt (mix (dgCs len sz f nc ct cn (mix (dgB bf 401 4) (nI nC)) nC) (nI nS)) i) 13)), (4, .int (nI 13))]) hx hb dX5_digest_139 hl (k := 2) rfl (nI_1 _) (by decide) rfl (fun ls hl => ?_)
                          refine lv_goto (tgt := 91) hx hb dX5_digest_142 (by decide) ?_
                          exact ih91 (i + 1) (by omega) (by omega) _ (lv_sub hl [1, 2, 0] rfl)
                        · skip
                          have n109 := mt (nI_leI (a := 13) (b := w) (by omega) (by omega)).mpr c109
                          refine lv_lload_n hx hb dX5_digest_112 rfl (lv_at hl 1 rfl) ?_
                          refine lv_aload_n hx hb dX5_digest_113 rfl (lv_at hl 0 rfl) ?_
                          refine va_get (D := D) (ci := 5) (v := .ref lt) (C := RX5) (T := TX5) (N := 5) hx hb hts inlX5 hown hG.K hP 0 rfl rfl 1 (by decide) (hts _ mF_X5_16) (fun _ h9 => h9) rfl dX5_digest_114 ?_
                          refine lv_iload_n hx hb dX5_digest_117 rfl (lv_at hl 2 rfl) ?_
                          have hP8 := ((hP.sub (ws' := [oO lt 7 [.int m2, .ref et, .int (nI nS)]]) [2] rfl).app (hW.sub (ws' := [aO D et 10 (lsF sl nS)]) [0] rfl))
                          have hP9 : va_P D cls [oO lt 7 [.int m2, .ref et, .int (nI nS)], aO D et 10 (lsF sl nS)] s.heap := hP8.sub [0, 1] rfl
                          refine va_csq (pV (rest := [.long (dgB (factS (len (ck i)) (pt i)) (dgSs (fun z => len (ck z)) pt (mix (dgCs len sz f nc ct cn (mix (dgB bf 401 4) (nI nC)) nC) (nI nS)) i) w)]) (qc := (RJx4a65c, TJx4a65c, 3)) [.int (nI i)] 1 hC (c_list_get l D (lo := lt) (i := i) (mc := m2) (ea := et) (n := nS) (k := 10) (f := lsF sl nS) (by omega) (by omega) (by omega)) rfl (hP 2 _ rfl) (gV mM_X5_250 mI_Jx4a65c_get_915e3 mS_Jx4a65c_get_915e3 mN_Jx4a65c mC_Jx4a65c_get_915e3) (by decide +kernel) rfl rfl ⟨Nat.le_of_ble_eq_true rfl, Nat.le_of_ble_eq_true rfl⟩ hG hP9 rfl hl.1 rfl (Nat.le_of_ble_eq_true rfl) dX5_digest_118 ⟨Nat.le_of_ble_eq_true rfl, Nat.le_of_ble_eq_true rfl⟩) (fun r118 h118 => ?_)
                          obtain rfl : r118 = ((lsF sl nS) i) := h118
                          refine tpv (y := .ref (sl i)) (lsF_ref (by omega)) ?_
                          refine va_castS (nm := RX3) hx hb hown (hts _ mK_X5_183) (hG.K.1 3 _ rfl).2 (rcv hG (hW 1 _ rfl) (ci := 3) rfl) dX5_digest_121 ?_
                          refine lv_iload hx hb dX5_digest_124 (lv_at hl 3 rfl) ?_
                          have hP9 := hW.sub (ws' := [oO (sl i) 3 [.ref (cl (ck i)), .int (pt i 0), .int (pt i 1), .int (pt i 3), .int (pt i 4), .int (pt i 5), .int (pt i 6), .int (pt i 7), .int (pt i 8), .int (pt i 9), .int (pt i 10), .int (pt i 11), .int (pt i 12)], oO (cl (ck i)) 0 [.int (len (ck i)), .ref (ta (ck i)), .ref (q (ck i) 0), .ref (q (ck i) 1)]]) [1, 2] rfl
                          refine vp_callSi (pV (rest := [.long (dgB (factS (len (ck i)) (pt i)) (dgSs (fun z => len (ck z)) pt (mix (dgCs len sz f nc ct cn (mix (dgB bf 401 4) (nI nC)) nC) (nI nS)) i) w)]) (qc := (RX3, TX3, 13)) [.int (nI w)] 1 hC (c_strip_fact l D (pt := pt i) (q := q (ck i)) (w := w) (so := sl i) (co := cl (ck i)) (len := len (ck i)) (ta := ta (ck i)) (hp i (by omega)) (by omega) (h9 i (by omega)) (h10 i (by omega))) rfl (hW 1 _ rfl) (gV mM_X5_234 mI_X3_fact mS_X3_fact mN_X3 mC_X3_fact) (by decide +kernel) rfl rfl ⟨Nat.le_of_ble_eq_true rfl, Nat.le_of_ble_eq_true rfl⟩ hG hP9 rfl hl.1 rfl (Nat.le_of_ble_eq_true rfl) dX5_digest_126 ⟨Nat.le_of_ble_eq_true rfl, Nat.le_of_ble_eq_true rfl⟩) (fun r126 h126 => ?_)
                          obtain rfl : r126 = (factS (len (ck i)) (pt i) w) := h126
                          have hP9 : va_P D cls [] s.heap := fun k q h => by simp at h
                          refine vp_callSl (pS (rest := []) [.long (dgB (factS (len (ck i)) (pt i)) (dgSs (fun z => len (ck z)) pt (mix (dgCs len sz f nc ct cn (mix (dgB bf 401 4) (nI nC)) nC) (nI nS)) i) w), .int (factS (len (ck i)) (pt i) w)] 2 hC (c_mixed l D (d := dgB (factS (len (ck i)) (pt i)) (dgSs (fun z => len (ck z)) pt (mix (dgCs len sz f nc ct cn (mix (dgB bf 401 4) (nI nC)) nC) (nI nS)) i) w) (x := factS (len (ck i)) (pt i) w) ) (gS mM_X5_284 mT_X5_mixed mN_X5 mC_X5_mixed) (by decide +kernel) rfl rfl ⟨Nat.le_of_ble_eq_true rfl, Nat.le_of_ble_eq_true rfl⟩ hG hP9 rfl hl.1 rfl (Nat.le_of_ble_eq_true rfl) dX5_digest_129 ⟨Nat.le_of_ble_eq_true rfl, Nat.le_of_ble_eq_true rfl⟩) (fun r129 h129 => ?_)
                          obtain rfl : r129 = (mix (dgB (factS (len (ck i)) (pt i)) (dgSs (fun z => len (ck z)) pt (mix (dgCs len sz f nc ct cn (mix (dgB bf 401 4) (nI nC)) nC) (nI nS)) i) w) (factS (len (ck i)) (pt i) w)) := h129
                          refine lv_lstore_n (lv' := [(1, .long (mix (dgB (factS (len (ck i)) (pt i)) (dgSs (fun z => len (ck z)) pt (mix (dgCs len sz f nc ct cn (mix (dgB bf 401 4) (nI nC)) nC) (nI nS)) i) w) (factS (len (ck i)) (pt i) w))), (0, .ref xo), (3, .int (nI i)), (4, .int (nI w))]) hx hb dX5_digest_132 rfl hl (by decide) rfl (fun ls hl => ?_)
                          refine lv_iinc (v := nI (w + 1)) (lv' := [(4, .int (nI (w + 1))), (1, .long (mix (dgB (factS (len (ck i)) (pt i)) (dgSs (fun z => len (ck z)) pt (mix (dgCs len sz f nc ct cn (mix (dgB bf 401 4) (nI nC)) nC) (nI nS)) i) w) (factS (len (ck i)) (pt i) w))), (0, .ref xo), (3, .int (nI i))]) hx hb dX5_digest_133 hl (k := 3) rfl (nI_1 _) (by decide) rfl (fun ls hl => ?_)
                          refine lv_goto (tgt := 105) hx hb dX5_digest_136 (by decide) ?_
                          exact ih105 (w + 1) (by omega) (by omega) _ (lv_sub hl [2, 1, 3, 0] rfl)
                    exact loop105 _ 0 (Nat.lt_succ_self _) (by omega) _ (lv_sub hl [1, 2, 3, 0] rfl)
              exact loop91 _ 0 (Nat.lt_succ_self _) (by omega) _ (lv_sub hl [2, 1, 0] rfl)
            · skip
              have n52 := mt (nI_leI (a := nC) (b := i) (by omega) (by omega)).mpr c52
              have hW : va_P D cls [aO D ec 10 (lsF cl nC), oO (cl i) 0 [.int (len i), .ref (ta i), .ref ((q i) 0), .ref ((q i) 1)], aT D (ta i) 4 (tkF (t i)), oO ((q i) 0) 2 [.ref ((b i) 0), .int (nI (nc i))], oO ((q i) 1) 2 [.ref ((b i) 1), .int (nI (nc i))], aI D ((b i) 0) 8 (ct i), aI D ((b i) 1) 8 (cn i), oO ((t i) 0) 4 [.ref ((r i) 0), .ref ((r i) 1), .ref ((r i) 2)], oO ((r i) 0) 2 [.ref ((a i) 0), .int (nI ((sz i) 0))], oO ((r i) 1) 2 [.ref ((a i) 1), .int (nI ((sz i) 0))], oO ((r i) 2) 2 [.ref ((a i) 2), .int (nI ((sz i) 0))], aI D ((a i) 0) 16 ((f i) 0), aI D ((a i) 1) 16 ((f i) 1), aI D ((a i) 2) 16 ((f i) 2), oO ((t i) 1) 4 [.ref ((r i) 3), .ref ((r i) 4), .ref ((r i) 5)], oO ((r i) 3) 2 [.ref ((a i) 3), .int (nI ((sz i) 1))], oO ((r i) 4) 2 [.ref ((a i) 4), .int (nI ((sz i) 1))], oO ((r i) 5) 2 [.ref ((a i) 5), .int (nI ((sz i) 1))], aI D ((a i) 3) 16 ((f i) 3), aI D ((a i) 4) 16 ((f i) 4), aI D ((a i) 5) 16 ((f i) 5), oO ((t i) 2) 4 [.ref ((r i) 6), .ref ((r i) 7), .ref ((r i) 8)], oO ((r i) 6) 2 [.ref ((a i) 6), .int (nI ((sz i) 2))], oO ((r i) 7) 2 [.ref ((a i) 7), .int (nI ((sz i) 2))], oO ((r i) 8) 2 [.ref ((a i) 8), .int (nI ((sz i) 2))], aI D ((a i) 6) 16 ((f i) 6), aI D ((a i) 7) 16 ((f i) 7), aI D ((a i) 8) 16 ((f i) 8), oO ((t i) 3) 4 [.ref ((r i) 9), .ref ((r i) 10), .ref ((r i) 11)], oO ((r i) 9) 2 [.ref ((a i) 9), .int (nI ((sz i) 3))], oO ((r i) 10) 2 [.ref ((a i) 10), .int (nI ((sz i) 3))], oO ((r i) 11) 2 [.ref ((a i) 11), .int (nI ((sz i) 3))], aI D ((a i) 9) 16 ((f i) 9), aI D ((a i) 10) 16 ((f i) 10), aI D ((a i) 11) 16 ((f i) 11)] s.heap := (hX.1 i (by omega)).1
              refine lv_aload_n hx hb dX5_digest_55 rfl (lv_at hl 0 rfl) ?_
              refine va_get (D := D) (ci := 5) (v := .ref lc) (C := RX5) (T := TX5) (N := 5) hx hb hts inlX5 hown hG.K hP 0 rfl rfl 0 (by decide) (hts _ mF_X5_10) (fun _ h9 => h9) rfl dX5_digest_56 ?_
              refine lv_iload_n hx hb dX5_digest_59 rfl (lv_at hl 2 rfl) ?_
              have hP8 := ((hP.sub (ws' := [oO lc 7 [.int m1, .ref ec, .int (nI nC)]]) [1] rfl).app (hW.sub (ws' := [aO D ec 10 (lsF cl nC)]) [0] rfl))
              have hP9 : va_P D cls [oO lc 7 [.int m1, .ref ec, .int (nI nC)], aO D ec 10 (lsF cl nC)] s.heap := hP8.sub [0, 1] rfl
              refine va_csq (pV (rest := []) (qc := (RJx4a65c, TJx4a65c, 3)) [.int (nI i)] 1 hC (c_list_get l D (lo := lc) (i := i) (mc := m1) (ea := ec) (n := nC) (k := 10) (f := lsF cl nC) (by omega) (by omega) (by omega)) rfl (hP 1 _ rfl) (gV mM_X5_250 mI_Jx4a65c_get_915e3 mS_Jx4a65c_get_915e3 mN_Jx4a65c mC_Jx4a65c_get_915e3) (by decide +kernel) rfl rfl ⟨Nat.le_of_ble_eq_true rfl, Nat.le_of_ble_eq_true rfl⟩ hG hP9 rfl hl.1 rfl (Nat.le_of_ble_eq_true rfl) dX5_digest_60 ⟨Nat.le_of_ble_eq_true rfl, Nat.le_of_ble_eq_true rfl⟩) (fun r60 h60 => ?_)
              obtain rfl : r60 = ((lsF cl nC) i) := h60
              refine tpv (y := .ref (cl i)) (lsF_ref (by omega)) ?_
              refine va_castS (nm := RX0) hx hb hown (hts _ mK_X5_61) (hG.K.1 0 _ rfl).2 (rcv hG (hW 1 _ rfl) (ci := 0) rfl) dX5_digest_63 ?_
              refine lv_lload_n hx hb dX5_digest_66 rfl (lv_at hl 1 rfl) ?_
              have hP9 := hW.sub (ws' := [oO (cl i) 0 [.int (len i), .ref (ta i), .ref ((q i) 0), .ref ((q i) 1)], aT D (ta i) 4 (tkF (t i)), oO ((q i) 0) 2 [.ref ((b i) 0), .int (nI (nc i))], oO ((q i) 1) 2 [.ref ((b i) 1), .int (nI (nc i))], aI D ((b i) 0) 8 (ct i), aI D ((b i) 1) 8 (cn i), oO ((t i) 0) 4 [.ref ((r i) 0), .ref ((r i) 1), .ref ((r i) 2)], oO ((r i) 0) 2 [.ref ((a i) 0), .int (nI ((sz i) 0))], oO ((r i) 1) 2 [.ref ((a i) 1), .int (nI ((sz i) 0))], oO ((r i) 2) 2 [.ref ((a i) 2), .int (nI ((sz i) 0))], aI D ((a i) 0) 16 ((f i) 0), aI D ((a i) 1) 16 ((f i) 1), aI D ((a i) 2) 16 ((f i) 2), oO ((t i) 1) 4 [.ref ((r i) 3), .ref ((r i) 4), .ref ((r i) 5)], oO ((r i) 3) 2 [.ref ((a i) 3), .int (nI ((sz i) 1))], oO ((r i) 4) 2 [.ref ((a i) 4), .int (nI ((sz i) 1))], oO ((r i) 5) 2 [.ref ((a i) 5), .int (nI ((sz i) 1))], aI D ((a i) 3) 16 ((f i) 3), aI D ((a i) 4) 16 ((f i) 4), aI D ((a i) 5) 16 ((f i) 5), oO ((t i) 2) 4 [.ref ((r i) 6), .ref ((r i) 7), .ref ((r i) 8)], oO ((r i) 6) 2 [.ref ((a i) 6), .int (nI ((sz i) 2))], oO ((r i) 7) 2 [.ref ((a i) 7), .int (nI ((sz i) 2))], oO ((r i) 8) 2 [.ref ((a i) 8), .int (nI ((sz i) 2))], aI D ((a i) 6) 16 ((f i) 6), aI D ((a i) 7) 16 ((f i) 7), aI D ((a i) 8) 16 ((f i) 8), oO ((t i) 3) 4 [.ref ((r i) 9), .ref ((r i) 10), .ref ((r i) 11)], oO ((r i) 9) 2 [.ref ((a i) 9), .int (nI ((sz i) 3))], oO ((r i) 10) 2 [.ref ((a i) 10), .int (nI ((sz i) 3))], oO ((r i) 11) 2 [.ref ((a i) 11), .int (nI ((sz i) 3))], aI D ((a i) 9) 16 ((f i) 9), aI D ((a i) 10) 16 ((f i) 10), aI D ((a i) 11) 16 ((f i) 11)]) [1, 2, 3, 4, 5, 6, 7, 8, 9, 10, 11, 12, 13, 14, 15, 16, 17, 18, 19, 20, 21, 22, 23, 24, 25, 26, 27, 28, 29, 30, 31, 32, 33, 34] rfl
              refine vp_callSl (pV (rest := []) (qc := (RX0, TX0, 4)) [.long (dgCs len sz f nc ct cn (mix (dgB bf 401 4) (nI nC)) i)] 1 hC (c_clip_mixed l D (co := cl i) (ta := ta i) (nc := nc i) (q := q i) (b := b i) (t := t i) (r := r i) (a := a i) (sz := sz i) (f := f i) (ct := ct i) (cn := cn i) (d := dgCs len sz f nc ct cn (mix (dgB bf 401 4) (nI nC)) i) (len := len i) (h16 i (by omega) 0 (by omega)) (h16 i (by omega) 1 (by omega)) (h16 i (by omega) 2 (by omega)) (h16 i (by omega) 3 (by omega)) (hnc i (by omega))) rfl (hW 1 _ rfl) (gV mM_X5_288 mI_X0_mixedInto mS_X0_mixedInto mN_X0 mC_X0_mixedInto) (by decide +kernel) rfl rfl ⟨Nat.le_of_ble_eq_true rfl, Nat.le_of_ble_eq_true rfl⟩ hG hP9 rfl hl.1 rfl (Nat.le_of_ble_eq_true rfl) dX5_digest_67 ⟨Nat.le_of_ble_eq_true rfl, Nat.le_of_ble_eq_true rfl⟩) (fun r67 h67 => ?_)
              obtain rfl : r67 = (dgClip (len i) (sz i) (f i) (nc i) (ct i) (cn i) (dgCs len sz f nc ct cn (mix (dgB bf 401 4) (nI nC)) i)) := h67
              refine lv_lstore_n (lv' := [(1, .long (dgClip (len i) (sz i) (f i) (nc i) (ct i) (cn i) (dgCs len sz f nc ct cn (mix (dgB bf 401 4) (nI nC)) i))), (0, .ref xo), (3, .int (nI i))]) hx hb dX5_digest_70 rfl hl (by decide) rfl (fun ls hl => ?_)
              refine lv_iinc (v := nI (i + 1)) (lv' := [(3, .int (nI (i + 1))), (1, .long (dgClip (len i) (sz i) (f i) (nc i) (ct i) (cn i) (dgCs len sz f nc ct cn (mix (dgB bf 401 4) (nI nC)) i))), (0, .ref xo)]) hx hb dX5_digest_71 hl (k := 2) rfl (nI_1 _) (by decide) rfl (fun ls hl => ?_)
              refine lv_goto (tgt := 44) hx hb dX5_digest_74 (by decide) ?_
              exact ih44 (i + 1) (by omega) (by omega) _ (lv_sub hl [2, 1, 0] rfl)
        exact loop44 _ 0 (Nat.lt_succ_self _) (by omega) _ (lv_sub hl [2, 1, 0] rfl)
      · skip
        have n8 := mt (nI_leI (a := 4) (b := i) (by omega) (by omega)).mpr c8
        refine lv_lload_n hx hb dX5_digest_11 rfl (lv_at hl 1 rfl) ?_
        refine lv_aload_n hx hb dX5_digest_12 rfl (lv_at hl 0 rfl) ?_
        refine va_get (D := D) (ci := 5) (v := .ref bo) (C := RX5) (T := TX5) (N := 5) hx hb hts inlX5 hown hG.K hP 0 rfl rfl 2 (by decide) (hts _ mF_X5_24) (fun _ h9 => h9) rfl dX5_digest_13 ?_
        refine lv_iload_n hx hb dX5_digest_16 rfl (lv_at hl 2 rfl) ?_
        have hP9 := hP.sub (ws' := [oO bo 2 [.ref ba, .int (nI 4)], aI D ba 4 bf]) [3, 4] rfl
        refine vp_callSi (pV (rest := [.long (dgB bf 401 i)]) (qc := (RX2, TX2, 2)) [.int (nI i)] 1 hC (c_get l D (r := bo) (j := i) (a := ba) (sz := 4) (n := 4) (f := bf) (by omega) (by omega) (by omega)) rfl (hP 3 _ rfl) (gV mM_X5_173 mI_X2_get mS_X2_get mN_X2 mC_X2_get) (by decide +kernel) rfl rfl ⟨Nat.le_of_ble_eq_true rfl, Nat.le_of_ble_eq_true rfl⟩ hG hP9 rfl hl.1 rfl (Nat.le_of_ble_eq_true rfl) dX5_digest_17 ⟨Nat.le_of_ble_eq_true rfl, Nat.le_of_ble_eq_true rfl⟩) (fun r17 h17 => ?_)
        obtain rfl : r17 = (bf i) := h17
        have hP9 : va_P D cls [] s.heap := fun k q h => by simp at h
        refine vp_callSl (pS (rest := []) [.long (dgB bf 401 i), .int (bf i)] 2 hC (c_mixed l D (d := dgB bf 401 i) (x := bf i) ) (gS mM_X5_284 mT_X5_mixed mN_X5 mC_X5_mixed) (by decide +kernel) rfl rfl ⟨Nat.le_of_ble_eq_true rfl, Nat.le_of_ble_eq_true rfl⟩ hG hP9 rfl hl.1 rfl (Nat.le_of_ble_eq_true rfl) dX5_digest_20 ⟨Nat.le_of_ble_eq_true rfl, Nat.le_of_ble_eq_true rfl⟩) (fun r20 h20 => ?_)
        obtain rfl : r20 = (mix (dgB bf 401 i) (bf i)) := h20
        refine lv_lstore_n (lv' := [(1, .long (mix (dgB bf 401 i) (bf i))), (0, .ref xo), (3, .int (nI i))]) hx hb dX5_digest_23 rfl hl (by decide) rfl (fun ls hl => ?_)
        refine lv_iinc (v := nI (i + 1)) (lv' := [(3, .int (nI (i + 1))), (1, .long (mix (dgB bf 401 i) (bf i))), (0, .ref xo)]) hx hb dX5_digest_24 hl (k := 2) rfl (nI_1 _) (by decide) rfl (fun ls hl => ?_)
        refine lv_goto (tgt := 6) hx hb dX5_digest_27 (by decide) ?_
        exact ih6 (i + 1) (by omega) (by omega) _ (lv_sub hl [2, 1, 0] rfl)
  exact loop6 _ 0 (Nat.lt_succ_self _) (by omega) _ (lv_sub hl [2, 1, 0] rfl)
