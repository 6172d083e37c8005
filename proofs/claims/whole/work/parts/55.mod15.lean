section
variable {p : Program} {l : Launch} {e : Env} {R : Room} {s : State} {m : MethodId} {args : Array Value} {below : List Frame} {meth : Method} {c : Code} {H : Heap} {locs : List Loc} {cells slots mc ms pc : Nat} {cc : ByteArray} {ls : Array Slot} {D : va_G} {A : Nat → Prop}
theorem Wl {S : Type} {post : Int64 → S → Prop} {w1 : S → va_W} {v : Int64} (u : S) (hx : p.tables.exec = Jvm.exec) (hb : c.code = cc) (hr : meth.sig.returnType = some .long) (hk : meth.locks = false) (hp : post v u) (hP : va_P D cls (w1 u) H) (hD : va_D A (w1 u)) (hS : va_S A s.heap H locs) (hc : cells ≤ mc) (hs : slots ≤ ms) (hdg : decode cc pc = .ok (.lreturn, 1)) : W p l e R s m args below meth c H locs cells slots (MQ below (va_Ql post (AT D A w1) A) args s mc ms A) (F0 m pc ls [.long v]) := W.widen hc hs (W.lret hx hb hr (fun t ht _ => ⟨⟨v, u, rfl, hp, by rw [ht]; exact hP, hD⟩, hS.F ht⟩) hS.2.2 hdg hk)
end
/-- a clip's checksum, track by track -/
def dgTs (len : Int32) (sz : Nat → Nat) (f : Nat → Nat → Int32) (d : Int64) : Nat → Int64
  | 0 => mix d len
  | j + 1 => dgT (f (3 * j)) (f (3 * j + 1)) (f (3 * j + 2)) (mix (dgTs len sz f d j) (nI (sz j))) (sz j)
theorem dgClip_is (len : Int32) (sz : Nat → Nat) (f : Nat → Nat → Int32) (nc : Nat) (ct cn : Nat → Int32) (d : Int64) : dgC ct cn (mix (dgTs len sz f d 4) (nI nc)) nc = dgClip len sz f nc ct cn d := rfl
set_option maxHeartbeats 400000 in
set_option maxRecDepth 100000 in
theorem m_digest (l : Launch) (D : va_G) {mo a1 a2 a3 a4 a5 a6 a7 a8 a9 a10 a11 nC nS nM : Nat} {th : Int32} {bs ln ks tm wo ea qs qt qn pa mm : Nat → Int32} {bf : Nat → Int32} {len : Nat → Int32} {sz : Nat → Nat → Nat} {f : Nat → Nat → Nat → Int32} {nc ck : Nat → Nat} {ct cn pt nf : Nat → Nat → Int32} (hz0 : Nat) (hC6 : nC ≤ 6) (hn10 : nS ≤ 10) (hM : nM ≤ 720) (hbs : ∀ j, j < 4 → bs j = bf j) (hln : ∀ i, i < nC → ln i = len i) (hks : ∀ i, i < nC → ∀ j, j < 4 → ks (4 * i + j) = nI (sz i j)) (h16 : ∀ i, i < nC → ∀ j, j < 4 → sz i j ≤ 16) (htm : ∀ i, i < nC → ∀ j, j < 4 → ∀ k, k < sz i j → tm (16 * (4 * i + j) + k) = f i (3 * j) k) (hwo : ∀ i, i < nC → ∀ j, j < 4 → ∀ k, k < sz i j → wo (16 * (4 * i + j) + k) = f i (3 * j + 1) k) (hea : ∀ i, i < nC → ∀ j, j < 4 → ∀ k, k < sz i j → ea (16 * (4 * i + j) + k) = f i (3 * j + 2) k) (hqs : ∀ i, i < nC → qs i = nI (nc i)) (hnc : ∀ i, i < nC → nc i ≤ 8) (hqt : ∀ i, i < nC → ∀ k, k < nc i → qt (8 * i + k) = ct i k) (hqn : ∀ i, i < nC → ∀ k, k < nc i → qn (8 * i + k) = cn i k) (hpa : ∀ i, i < nS → ∀ w, w < 13 → ¬ w = 2 → pa (13 * i + w) = pt i w) (hc0 : ∀ i, i < nS → pa (13 * i) = nI (ck i)) (hc6 : ∀ i, i < nS → ck i < 6) (hlq : ∀ i, i < nS → ln (ck i) = len (ck i)) (hO : ∀ i, i < nS → sOK (len (ck i)) (pt i)) (hmm : ∀ k, k < min nM 100 → ∀ w, w < 4 → mm (4 * k + w) = nf w k) : Met l yX6_digest (ws_ yX6_digest cX6_digest 7 (some .long)) ({ frames := 5, cells := 0, slots := 0, locals := 107 } : Room) (va_Pc [.ref mo] (SW D [oO mo 6 [.int th, .ref a1, .int (nI nC), .ref a2, .ref a3, .ref a4, .ref a5, .ref a6, .ref a7, .ref a8, .ref a9, .int (nI nS), .ref a10, .int (nI nM), .ref a11], aI D a1 4 bs, aI D a2 6 ln, aI D a3 24 ks, aI D a4 384 tm, aI D a5 384 wo, aI D a6 384 ea, aI D a7 6 qs, aI D a8 48 qt, aI D a9 48 qn, aI D a10 130 pa, aI D a11 2880 mm] hz0)) (va_Ql (fun v _ => v = dgAll bf nC len sz f nc ct cn nS (fun z => len (ck z)) pt nf (nI nM) (min nM 100)) (AT D (va_A [oO mo 6 [.int th, .ref a1, .int (nI nC), .ref a2, .ref a3, .ref a4, .ref a5, .ref a6, .ref a7, .ref a8, .ref a9, .int (nI nS), .ref a10, .int (nI nM), .ref a11], aI D a1 4 bs, aI D a2 6 ln, aI D a3 24 ks, aI D a4 384 tm, aI D a5 384 wo, aI D a6 384 ea, aI D a7 6 qs, aI D a8 48 qt, aI D a9 48 qn, aI D a10 130 pa, aI D a11 2880 mm] hz0) (fun _ : Unit => [oO mo 6 [.int 0, .ref a1, .int (nI nC), .ref a2, .ref a3, .ref a4, .ref a5, .ref a6, .ref a7, .ref a8, .ref a9, .int (nI nS), .ref a10, .int (nI nM), .ref a11], aI D a1 4 bs, aI D a2 6 ln, aI D a3 24 ks, aI D a4 384 tm, aI D a5 384 wo, aI D a6 384 ea, aI D a7 6 qs, aI D a8 48 qt, aI D a9 48 qn, aI D a10 130 pa, aI D a11 2880 mm])) (va_A [oO mo 6 [.int th, .ref a1, .int (nI nC), .ref a2, .ref a3, .ref a4, .ref a5, .ref a6, .ref a7, .ref a8, .ref a9, .int (nI nS), .ref a10, .int (nI nM), .ref a11], aI D a1 4 bs, aI D a2 6 ln, aI D a3 24 ks, aI D a4 384 tm, aI D a5 384 wo, aI D a6 384 ea, aI D a7 6 qs, aI D a8 48 qt, aI D a9 48 qn, aI D a10 130 pa, aI D a11 2880 mm] hz0)) 0 0 (va_A [oO mo 6 [.int th, .ref a1, .int (nI nC), .ref a2, .ref a3, .ref a4, .ref a5, .ref a6, .ref a7, .ref a8, .ref a9, .int (nI nS), .ref a10, .int (nI nM), .ref a11], aI D a1 4 bs, aI D a2 6 ln, aI D a3 24 ks, aI D a4 384 tm, aI D a5 384 wo, aI D a6 384 ea, aI D a7 6 qs, aI D a8 48 qt, aI D a9 48 qn, aI D a10 130 pa, aI D a11 2880 mm] hz0) := by
  refine Met.ofW (cc := cX6_digest) (maxL := 7) (ret := (some .long)) (by decide) rfl ?_
  intro p e s m args below meth c s₁ B hml hv
  obtain ⟨rfl, hsz, hG, hP, hD0⟩ := hv
  have hx := B.exec
  have hb := B.bytes
  have hr := B.returns
  have hts : ∀ w ∈ wsL_law, w.before _ s = true := fun w h => atoms_spec (ws := (ws_ yX6_digest cX6_digest 7 (some .long))) B.pre w (List.mem_cons_of_mem _ h)
  have hown : s.vm.findClass RX6 = some m.cls := findClass_of_methodNamed B.named
  have hlk := B.notSynchronized
  have hC : CallFix p m c cX6_digest 7 s _ wsL_law RX6 := ⟨hx, hb, hml, hown, hts⟩
  subst hsz
  have hD := hD0.self (sz := s.heap.size)
  generalize hAe : va_A [oO mo 6 [.int th, .ref a1, .int (nI nC), .ref a2, .ref a3, .ref a4, .ref a5, .ref a6, .ref a7, .ref a8, .ref a9, .int (nI nS), .ref a10, .int (nI nM), .ref a11], aI D a1 4 bs, aI D a2 6 ln, aI D a3 24 ks, aI D a4 384 tm, aI D a5 384 wo, aI D a6 384 ea, aI D a7 6 qs, aI D a8 48 qt, aI D a9 48 qn, aI D a10 130 pa, aI D a11 2880 mm] s.heap.size = A at hD ⊢
  have hA : ∀ q : Nat, s.heap.size ≤ q → A q := fun q h => by rw [← hAe]; exact Or.inr h
  have hS : va_S A s.heap s.heap [] := va_S.rf
  obtain ⟨H, hHe⟩ : ∃ H, H = s.heap := ⟨_, rfl⟩
  rw [← hHe] at hP
  have hS : va_S A s.heap H [] := by rw [hHe]; exact hS
  have hl := lv_entry ([.ref mo]) (n := 7) (Nat.le_of_ble_eq_true rfl)
  rw [lg_entry_eq]
  generalize (lg_sl ([.ref mo]) ++ List.replicate (7 - (lg_sl ([.ref mo])).length) Slot.unset).toArray = ls at hl ⊢
  have hl : lv_has ls 7 [(0, .ref mo)] := hl
  rw [← hHe]
  refine lv_aload_n hx hb dX6_digest_0 rfl (lv_at hl 0 rfl) ?_
  refine lv_iconst (v := 0) hx hb dX6_digest_1 (by decide) ?_
  refine va_put (D := D) (ci := 6) (v := .int 0) (ty := .int) (C := RX6) (T := TX6) (N := 15) hx hb hts inlX6 tyX6 tyX6_ok nmX6 hown hG.K hP hD hS 0 rfl rfl 0 (by decide) (hts _ mF_X6_43) (fun _ h9 => h9) rfl (by decide +kernel) rfl rfl (Nat.le_of_ble_eq_true rfl) dX6_digest_2 (fun H locs hP hD hS => ?_)
  have hP : va_P D cls [oO mo 6 [.int 0, .ref a1, .int (nI nC), .ref a2, .ref a3, .ref a4, .ref a5, .ref a6, .ref a7, .ref a8, .ref a9, .int (nI nS), .ref a10, .int (nI nM), .ref a11], aI D a1 4 bs, aI D a2 6 ln, aI D a3 24 ks, aI D a4 384 tm, aI D a5 384 wo, aI D a6 384 ea, aI D a7 6 qs, aI D a8 48 qt, aI D a9 48 qn, aI D a10 130 pa, aI D a11 2880 mm] H := hP
  have hD : va_D A [oO mo 6 [.int 0, .ref a1, .int (nI nC), .ref a2, .ref a3, .ref a4, .ref a5, .ref a6, .ref a7, .ref a8, .ref a9, .int (nI nS), .ref a10, .int (nI nM), .ref a11], aI D a1 4 bs, aI D a2 6 ln, aI D a3 24 ks, aI D a4 384 tm, aI D a5 384 wo, aI D a6 384 ea, aI D a7 6 qs, aI D a8 48 qt, aI D a9 48 qn, aI D a10 130 pa, aI D a11 2880 mm] := hD
  refine lv_ldc2 hx hb hown (hts _ mH_X6_177) dX6_digest_5 ?_
  refine lv_lstore_n (lv' := [(1, .long 401), (0, .ref mo)]) hx hb dX6_digest_8 rfl hl (by decide) rfl (fun ls hl => ?_)
  refine lv_aload_n hx hb dX6_digest_9 rfl (lv_at hl 1 rfl) ?_
  refine va_get (D := D) (ci := 6) (v := .ref a1) (C := RX6) (T := TX6) (N := 15) hx hb hts inlX6 hown hG.K hP 0 rfl rfl 1 (by decide) (hts _ mF_X6_9) (fun _ h9 => h9) rfl dX6_digest_10 ?_
  refine lv_astore_n (lv' := [(3, .ref a1), (1, .long 401), (0, .ref mo)]) hx hb dX6_digest_13 rfl hl (by decide) rfl (fun ls hl => ?_)
  refine lv_aload_n hx hb dX6_digest_14 rfl (lv_at hl 0 rfl) ?_
  refine iln hx hb hG hP 1 rfl dX6_digest_15 ?_
  refine lv_istore (lv' := [(4, .int (nI 4)), (3, .ref a1), (1, .long 401), (0, .ref mo)]) hx hb dX6_digest_16 hl (by decide) rfl (fun ls hl => ?_)
  refine lv_iconst (v := 0) hx hb dX6_digest_18 (by decide) ?_
  refine lv_istore (lv' := [(5, .int 0), (4, .int (nI 4)), (3, .ref a1), (1, .long 401), (0, .ref mo)]) hx hb dX6_digest_19 hl (by decide) rfl (fun ls hl => ?_)
  have loop21 : ∀ (d9 : Nat) (i : Nat), (4 - i) < d9 → (i ≤ 4) → ∀ (ls : Array Slot), lv_has ls 7 [(0, .ref mo), (1, .long (dgB bf 401 i)), (3, .ref a1), (4, .int (nI 4)), (5, .int (nI i))] → W p l e ({ frames := 5, cells := 0, slots := 0, locals := 107 } : Room) s m ([.ref mo] : List Value).toArray below meth c H locs 0 0 (MQ below (va_Ql (fun v _ => v = dgAll bf nC len sz f nc ct cn nS (fun z => len (ck z)) pt nf (nI nM) (min nM 100)) (AT D A (fun _ : Unit => [oO mo 6 [.int 0, .ref a1, .int (nI nC), .ref a2, .ref a3, .ref a4, .ref a5, .ref a6, .ref a7, .ref a8, .ref a9, .int (nI nS), .ref a10, .int (nI nM), .ref a11], aI D a1 4 bs, aI D a2 6 ln, aI D a3 24 ks, aI D a4 384 tm, aI D a5 384 wo, aI D a6 384 ea, aI D a7 6 qs, aI D a8 48 qt, aI D a9 48 qn, aI D a10 130 pa, aI D a11 2880 mm])) A) ([.ref mo] : List Value).toArray s 0 0 A) (F0 m 21 ls []) := by
    intro d9
    induction d9 with
    | zero => intro i hd; exact absurd hd (Nat.not_lt_zero _)
    | succ d9 ih21 =>
      intro i hd21 hi ls hl
      refine lv_iload hx hb dX6_digest_21 (lv_at hl 4 rfl) ?_
      refine lv_iload hx hb dX6_digest_23 (lv_at hl 3 rfl) ?_
      refine lv_icmp_ge (tgt := 50) hx hb dX6_digest_25 (by decide) (fun c25 => ?_) (fun c25 => ?_)
      · skip
        have n25 := (nI_leI (a := 4) (b := i) (by omega) (by omega)).mp c25
        have hk9 : i = 4 := by omega
        subst i
        refine lv_lload_n hx hb dX6_digest_50 rfl (lv_at hl 1 rfl) ?_
        refine lv_ldc2 hx hb hown (hts _ mH_X6_179) dX6_digest_51 ?_
        refine lv_lmul hx hb dX6_digest_54 ?_
        refine lv_aload_n hx hb dX6_digest_55 rfl (lv_at hl 0 rfl) ?_
        refine va_get (D := D) (ci := 6) (v := .int (nI nC)) (C := RX6) (T := TX6) (N := 15) hx hb hts inlX6 hown hG.K hP 0 rfl rfl 2 (by decide) (hts _ mF_X6_47) (fun _ h9 => h9) rfl dX6_digest_56 ?_
        refine lv_i2l hx hb dX6_digest_59 rfl ?_
        refine lv_ladd hx hb dX6_digest_60 ?_
        refine tpl (y := dgCs len sz f nc ct cn (mix (dgB bf 401 4) (nI nC)) 0) (rfl) ?_
        refine lv_lstore_n (lv' := [(1, .long (dgCs len sz f nc ct cn (mix (dgB bf 401 4) (nI nC)) 0)), (0, .ref mo), (3, .ref a1), (4, .int (nI 4)), (5, .int (nI 4))]) hx hb dX6_digest_61 rfl hl (by decide) rfl (fun ls hl => ?_)
        refine lv_iconst (v := 0) hx hb dX6_digest_62 (by decide) ?_
        refine lv_istore_n (lv' := [(3, .int 0), (1, .long (dgCs len sz f nc ct cn (mix (dgB bf 401 4) (nI nC)) 0)), (0, .ref mo), (4, .int (nI 4)), (5, .int (nI 4))]) hx hb dX6_digest_63 rfl hl (by decide) rfl (fun ls hl => ?_)
        have loop64 : ∀ (d9 : Nat) (i : Nat), (nC - i) < d9 → (i ≤ nC) → ∀ (ls : Array Slot), lv_has ls 7 [(0, .ref mo), (1, .long (dgCs len sz f nc ct cn (mix (dgB bf 401 4) (nI nC)) i)), (3, .int (nI i))] → W p l e ({ frames := 5, cells := 0, slots := 0, locals := 107 } : Room) s m ([.ref mo] : List Value).toArray below meth c H locs 0 0 (MQ below (va_Ql (fun v _ => v = dgAll bf nC len sz f nc ct cn nS (fun z => len (ck z)) pt nf (nI nM) (min nM 100)) (AT D A (fun _ : Unit => [oO mo 6 [.int 0, .ref a1, .int (nI nC), .ref a2, .ref a3, .ref a4, .ref a5, .ref a6, .ref a7, .ref a8, .ref a9, .int (nI nS), .ref a10, .int (nI nM), .ref a11], aI D a1 4 bs, aI D a2 6 ln, aI D a3 24 ks, aI D a4 384 tm, aI D a5 384 wo, aI D a6 384 ea, aI D a7 6 qs, aI D a8 48 qt, aI D a9 48 qn, aI D a10 130 pa, aI D a11 2880 mm])) A) ([.ref mo] : List Value).toArray s 0 0 A) (F0 m 64 ls []) := by
          intro d9
          induction d9 with
          | zero => intro i hd; exact absurd hd (Nat.not_lt_zero _)
          | succ d9 ih64 =>
            intro i hd64 hi ls hl
            refine lv_iload_n hx hb dX6_digest_64 rfl (lv_at hl 2 rfl) ?_
            refine lv_aload_n hx hb dX6_digest_65 rfl (lv_at hl 0 rfl) ?_
            refine va_get (D := D) (ci := 6) (v := .int (nI nC)) (C := RX6) (T := TX6) (N := 15) hx hb hts inlX6 hown hG.K hP 0 rfl rfl 2 (by decide) (hts _ mF_X6_47) (fun _ h9 => h9) rfl dX6_digest_66 ?_
            refine lv_icmp_ge (tgt := 270) hx hb dX6_digest_69 (by decide) (fun c69 => ?_) (fun c69 => ?_)
            · skip
              have n69 := (nI_leI (a := nC) (b := i) (by omega) (by omega)).mp c69
              have hk9 : i = nC := by omega
              subst i
              refine lv_lload_n hx hb dX6_digest_270 rfl (lv_at hl 1 rfl) ?_
              refine lv_ldc2 hx hb hown (hts _ mH_X6_179) dX6_digest_271 ?_
              refine lv_lmul hx hb dX6_digest_274 ?_
              refine lv_aload_n hx hb dX6_digest_275 rfl (lv_at hl 0 rfl) ?_
              refine va_get (D := D) (ci := 6) (v := .int (nI nS)) (C := RX6) (T := TX6) (N := 15) hx hb hts inlX6 hown hG.K hP 0 rfl rfl 11 (by decide) (hts _ mF_X6_108) (fun _ h9 => h9) rfl dX6_digest_276 ?_
              refine lv_i2l hx hb dX6_digest_279 rfl ?_
              refine lv_ladd hx hb dX6_digest_280 ?_
              refine tpl (y := dgSs (fun z => len (ck z)) pt (mix (dgCs len sz f nc ct cn (mix (dgB bf 401 4) (nI nC)) nC) (nI nS)) 0) (rfl) ?_
              refine lv_lstore_n (lv' := [(1, .long (dgSs (fun z => len (ck z)) pt (mix (dgCs len sz f nc ct cn (mix (dgB bf 401 4) (nI nC)) nC) (nI nS)) 0)), (0, .ref mo), (3, .int (nI nC))]) hx hb dX6_digest_281 rfl hl (by decide) rfl (fun ls hl => ?_)
              refine lv_iconst (v := 0) hx hb dX6_digest_282 (by decide) ?_
              refine lv_istore_n (lv' := [(3, .int 0), (1, .long (dgSs (fun z => len (ck z)) pt (mix (dgCs len sz f nc ct cn (mix (dgB bf 401 4) (nI nC)) nC) (nI nS)) 0)), (0, .ref mo)]) hx hb dX6_digest_283 rfl hl (by decide) rfl (fun ls hl => ?_)
              have loop284 : ∀ (d9 : Nat) (i : Nat), (nS - i) < d9 → (i ≤ nS) → ∀ (ls : Array Slot), lv_has ls 7 [(0, .ref mo), (1, .long (dgSs (fun z => len (ck z)) pt (mix (dgCs len sz f nc ct cn (mix (dgB bf 401 4) (nI nC)) nC) (nI nS)) i)), (3, .int (nI i))] → W p l e ({ frames := 5, cells := 0, slots := 0, locals := 107 } : Room) s m ([.ref mo] : List Value).toArray below meth c H locs 0 0 (MQ below (va_Ql (fun v _ => v = dgAll bf nC len sz f nc ct cn nS (fun z => len (ck z)) pt nf (nI nM) (min nM 100)) (AT D A (fun _ : Unit => [oO mo 6 [.int 0, .ref a1, .int (nI nC), .ref a2, .ref a3, .ref a4, .ref a5, .ref a6, .ref a7, .ref a8, .ref a9, .int (nI nS), .ref a10, .int (nI nM), .ref a11], aI D a1 4 bs, aI D a2 6 ln, aI D a3 24 ks, aI D a4 384 tm, aI D a5 384 wo, aI D a6 384 ea, aI D a7 6 qs, aI D a8 48 qt, aI D a9 48 qn, aI D a10 130 pa, aI D a11 2880 mm])) A) ([.ref mo] : List Value).toArray s 0 0 A) (F0 m 284 ls []) := by
                intro d9
                induction d9 with
                | zero => intro i hd; exact absurd hd (Nat.not_lt_zero _)
                | succ d9 ih284 =>
                  intro i hd284 hi ls hl
                  refine lv_iload_n hx hb dX6_digest_284 rfl (lv_at hl 2 rfl) ?_
                  refine lv_aload_n hx hb dX6_digest_285 rfl (lv_at hl 0 rfl) ?_
                  refine va_get (D := D) (ci := 6) (v := .int (nI nS)) (C := RX6) (T := TX6) (N := 15) hx hb hts inlX6 hown hG.K hP 0 rfl rfl 11 (by decide) (hts _ mF_X6_108) (fun _ h9 => h9) rfl dX6_digest_286 ?_
                  refine lv_icmp_ge (tgt := 329) hx hb dX6_digest_289 (by decide) (fun c289 => ?_) (fun c289 => ?_)
                  · skip
                    have n289 := (nI_leI (a := nS) (b := i) (by omega) (by omega)).mp c289
                    have hk9 : i = nS := by omega
                    subst i
                    refine lv_lload_n hx hb dX6_digest_329 rfl (lv_at hl 1 rfl) ?_
                    refine lv_ldc2 hx hb hown (hts _ mH_X6_179) dX6_digest_330 ?_
                    refine lv_lmul hx hb dX6_digest_333 ?_
                    refine lv_aload_n hx hb dX6_digest_334 rfl (lv_at hl 0 rfl) ?_
                    refine va_get (D := D) (ci := 6) (v := .int (nI nM)) (C := RX6) (T := TX6) (N := 15) hx hb hts inlX6 hown hG.K hP 0 rfl rfl 13 (by decide) (hts _ mF_X6_168) (fun _ h9 => h9) rfl dX6_digest_335 ?_
                    refine lv_i2l hx hb dX6_digest_338 rfl ?_
                    refine lv_ladd hx hb dX6_digest_339 ?_
                    refine tpl (y := dgN nf (mix (dgSs (fun z => len (ck z)) pt (mix (dgCs len sz f nc ct cn (mix (dgB bf 401 4) (nI nC)) nC) (nI nS)) nS) (nI nM)) 0) (rfl) ?_
                    refine lv_lstore_n (lv' := [(1, .long (dgN nf (mix (dgSs (fun z => len (ck z)) pt (mix (dgCs len sz f nc ct cn (mix (dgB bf 401 4) (nI nC)) nC) (nI nS)) nS) (nI nM)) 0)), (0, .ref mo), (3, .int (nI nS))]) hx hb dX6_digest_340 rfl hl (by decide) rfl (fun ls hl => ?_)
                    refine lv_iconst (v := 0) hx hb dX6_digest_341 (by decide) ?_
                    refine lv_istore_n (lv' := [(3, .int 0), (1, .long (dgN nf (mix (dgSs (fun z => len (ck z)) pt (mix (dgCs len sz f nc ct cn (mix (dgB bf 401 4) (nI nC)) nC) (nI nS)) nS) (nI nM)) 0)), (0, .ref mo)]) hx hb dX6_digest_342 rfl hl (by decide) rfl (fun ls hl => ?_)
                    have loop343 : ∀ (d9 : Nat) (k : Nat), (min nM 100 - k) < d9 → (k ≤ min nM 100) → ∀ (ls : Array Slot), lv_has ls 7 [(0, .ref mo), (1, .long (dgN nf (mix (dgSs (fun z => len (ck z)) pt (mix (dgCs len sz f nc ct cn (mix (dgB bf 401 4) (nI nC)) nC) (nI nS)) nS) (nI nM)) k)), (3, .int (nI k))] → W p l e ({ frames := 5, cells := 0, slots := 0, locals := 107 } : Room) s m ([.ref mo] : List Value).toArray below meth c H locs 0 0 (MQ below (va_Ql (fun v _ => v = dgAll bf nC len sz f nc ct cn nS (fun z => len (ck z)) pt nf (nI nM) (min nM 100)) (AT D A (fun _ : Unit => [oO mo 6 [.int 0, .ref a1, .int (nI nC), .ref a2, .ref a3, .ref a4, .ref a5, .ref a6, .ref a7, .ref a8, .ref a9, .int (nI nS), .ref a10, .int (nI nM), .ref a11], aI D a1 4 bs, aI D a2 6 ln, aI D a3 24 ks, aI D a4 384 tm, aI D a5 384 wo, aI D a6 384 ea, aI D a7 6 qs, aI D a8 48 qt, aI D a9 48 qn, aI D a10 130 pa, aI D a11 2880 mm])) A) ([.ref mo] : List Value).toArray s 0 0 A) (F0 m 343 ls []) := by
                      intro d9
                      induction d9 with
                      | zero => intro k hd; exact absurd hd (Nat.not_lt_zero _)
                      | succ d9 ih343 =>
                        intro k hd343 hk ls hl
                        refine lv_iload_n hx hb dX6_digest_343 rfl (lv_at hl 2 rfl) ?_
                        refine lv_aload_n hx hb dX6_digest_344 rfl (lv_at hl 0 rfl) ?_
                        refine va_get (D := D) (ci := 6) (v := .int (nI nM)) (C := RX6) (T := TX6) (N := 15) hx hb hts inlX6 hown hG.K hP 0 rfl rfl 13 (by decide) (hts _ mF_X6_168) (fun _ h9 => h9) rfl dX6_digest_345 ?_
                        refine lv_bipush (v := 100) hx hb dX6_digest_348 (by decide) ?_
                        refine va_mmin hx hb (by rw [hml]; exact hl.1.symm) hown (hts _ mM_X6_144) (hts _ mT_Lib_Math_min_name) (hts _ mN__java_lang_Math_) (hts _ mC_Lib_Math_min_name) (Nat.le_of_ble_eq_true rfl) (Nat.le_of_ble_eq_true rfl) (Nat.le_of_ble_eq_true rfl) (Nat.le_of_ble_eq_true rfl) dX6_digest_350 ?_
                        refine tpi (y := nI (min nM 100)) (mmin (by omega)) ?_
                        refine lv_icmp_ge (tgt := 392) hx hb dX6_digest_353 (by decide) (fun c353 => ?_) (fun c353 => ?_)
                        · skip
                          have n353 := (nI_leI (a := min nM 100) (b := k) (by omega) (by omega)).mp c353
                          have hk9 : k = min nM 100 := by omega
                          subst k
                          refine lv_lload_n hx hb dX6_digest_392 rfl (lv_at hl 1 rfl) ?_
                          refine Wl () hx hb hr hlk ?_ hP hD hS (Nat.le_of_ble_eq_true rfl) (by first | exact Nat.le_of_ble_eq_true rfl | exact Nat.le_of_eq (Nat.zero_add _)) dX6_digest_393
                          exact rfl
                        · skip
                          have n353 := mt (nI_leI (a := min nM 100) (b := k) (by omega) (by omega)).mpr c353
                          refine lv_iconst (v := 0) hx hb dX6_digest_356 (by decide) ?_
                          refine lv_istore (lv' := [(4, .int 0), (0, .ref mo), (1, .long (dgN nf (mix (dgSs (fun z => len (ck z)) pt (mix (dgCs len sz f nc ct cn (mix (dgB bf 401 4) (nI nC)) nC) (nI nS)) nS) (nI nM)) k)), (3, .int (nI k))]) hx hb dX6_digest_357 hl (by decide) rfl (fun ls hl => ?_)
                          refine lv_iload hx hb dX6_digest_359 (lv_at hl 0 rfl) ?_
                          refine lv_iconst (v := 4) hx hb dX6_digest_361 (by decide) ?_
                          refine lv_icmp_ge (tgt := 386) hx hb dX6_digest_362 (by decide) (fun h9 => absurd h9 (by decide)) (fun _ => ?_)
                          refine lv_lload_n hx hb dX6_digest_365 rfl (lv_at hl 2 rfl) ?_
                          refine lv_ldc2 hx hb hown (hts _ mH_X6_179) dX6_digest_366 ?_
                          refine lv_lmul hx hb dX6_digest_369 ?_
                          refine lv_aload_n hx hb dX6_digest_370 rfl (lv_at hl 1 rfl) ?_
                          refine lv_iload_n hx hb dX6_digest_371 rfl (lv_at hl 3 rfl) ?_
                          refine lv_iload hx hb dX6_digest_372 (lv_at hl 0 rfl) ?_
                          have hP9 := hP.sub (ws' := [oO mo 6 [.int 0, .ref a1, .int (nI nC), .ref a2, .ref a3, .ref a4, .ref a5, .ref a6, .ref a7, .ref a8, .ref a9, .int (nI nS), .ref a10, .int (nI nM), .ref a11], aI D a11 2880 mm]) [0, 11] rfl
                          refine vp_callSi (pV (rest := [.long ((dgN nf (mix (dgSs (fun z => len (ck z)) pt (mix (dgCs len sz f nc ct cn (mix (dgB bf 401 4) (nI nC)) nC) (nI nS)) nS) (nI nM)) k) * 31)]) (qc := (RX6, TX6, 15)) [.int (nI k), .int 0] 2 hC (m_metTold l D (mo := mo) (i := k) (w0 := 0) (th := 0) (a1 := a1) (nC := nC) (a2 := a2) (a3 := a3) (a4 := a4) (a5 := a5) (a6 := a6) (a7 := a7) (a8 := a8) (a9 := a9) (nS := nS) (a10 := a10) (nM := nM) (a11 := a11) (mm := mm) (by omega) (by omega)) rfl (hP 0 _ rfl) (gV mM_X6_174 mI_X6_metTold mS_X6_metTold mN_X6 mC_X6_metTold) (by decide +kernel) rfl rfl ⟨Nat.le_of_ble_eq_true rfl, Nat.le_of_ble_eq_true rfl⟩ hG hP9 rfl hl.1 rfl (Nat.le_of_ble_eq_true rfl) dX6_digest_374 ⟨Nat.le_of_ble_eq_true rfl, Nat.le_of_ble_eq_true rfl⟩) (fun r374 h374 => ?_)
                          obtain rfl : r374 = (mm (4 * k + 0)) := h374
                          refine tpi (y := nf 0 k) (hmm k (by omega) 0 (by decide)) ?_
                          refine lv_i2l hx hb dX6_digest_377 rfl ?_
                          refine lv_ladd hx hb dX6_digest_378 ?_
                          refine tpl (y := mix (dgN nf (mix (dgSs (fun z => len (ck z)) pt (mix (dgCs len sz f nc ct cn (mix (dgB bf 401 4) (nI nC)) nC) (nI nS)) nS) (nI nM)) k) (nf 0 k)) (rfl) ?_
                          refine lv_lstore_n (lv' := [(1, .long (mix (dgN nf (mix (dgSs (fun z => len (ck z)) pt (mix (dgCs len sz f nc ct cn (mix (dgB bf 401 4) (nI nC)) nC) (nI nS)) nS) (nI nM)) k) (nf 0 k))), (4, .int 0), (0, .ref mo), (3, .int (nI k))]) hx hb dX6_digest_379 rfl hl (by decide) rfl (fun ls hl => ?_)
                          refine lv_iinc (v := 1) (lv' := [(4, .int 1), (1, .long (mix (dgN nf (mix (dgSs (fun z => len (ck z)) pt (mix (dgCs len sz f nc ct cn (mix (dgB bf 401 4) (nI nC)) nC) (nI nS)) nS) (nI nM)) k) (nf 0 k))), (0, .ref mo), (3, .int (nI k))]) hx hb dX6_digest_380 hl (k := 1) rfl (by decide) (by decide) rfl (fun ls hl => ?_)
                          refine lv_goto (tgt := 359) hx hb dX6_digest_383 (by decide) ?_
                          refine lv_iload hx hb dX6_digest_359 (lv_at hl 0 rfl) ?_
                          refine lv_iconst (v := 4) hx hb dX6_digest_361 (by decide) ?_
                          refine lv_icmp_ge (tgt := 386) hx hb dX6_digest_362 (by decide) (fun h9 => absurd h9 (by decide)) (fun _ => ?_)
                          refine lv_lload_n hx hb dX6_digest_365 rfl (lv_at hl 1 rfl) ?_
                          refine lv_ldc2 hx hb hown (hts _ mH_X6_179) dX6_digest_366 ?_
                          refine lv_lmul hx hb dX6_digest_369 ?_
                          refine lv_aload_n hx hb dX6_digest_370 rfl (lv_at hl 2 rfl) ?_
                          refine lv_iload_n hx hb dX6_digest_371 rfl (lv_at hl 3 rfl) ?_
                          refine lv_iload hx hb dX6_digest_372 (lv_at hl 0 rfl) ?_
                          have hP9 := hP.sub (ws' := [oO mo 6 [.int 0, .ref a1, .int (nI nC), .ref a2, .ref a3, .ref a4, .ref a5, .ref a6, .ref a7, .ref a8, .ref a9, .int (nI nS), .ref a10, .int (nI nM), .ref a11], aI D a11 2880 mm]) [0, 11] rfl
                          refine vp_callSi (pV (rest := [.long ((mix (dgN nf (mix (dgSs (fun z => len (ck z)) pt (mix (dgCs len sz f nc ct cn (mix (dgB bf 401 4) (nI nC)) nC) (nI nS)) nS) (nI nM)) k) (nf 0 k)) * 31)]) (qc := (RX6, TX6, 15)) [.int (nI k), .int 1] 2 hC (m_metTold l D (mo := mo) (i := k) (w0 := 1) (th := 0) (a1 := a1) (nC := nC) (a2 := a2) (a3 := a3) (a4 := a4) (a5 := a5) (a6 := a6) (a7 := a7) (a8 := a8) (a9 := a9) (nS := nS) (a10 := a10) (nM := nM) (a11 := a11) (mm := mm) (by omega) (by omega)) rfl (hP 0 _ rfl) (gV mM_X6_174 mI_X6_metTold mS_X6_metTold mN_X6 mC_X6_metTold) (by decide +kernel) rfl rfl ⟨Nat.le_of_ble_eq_true rfl, Nat.le_of_ble_eq_true rfl⟩ hG hP9 rfl hl.1 rfl (Nat.le_of_ble_eq_true rfl) dX6_digest_374 ⟨Nat.le_of_ble_eq_true rfl, Nat.le_of_ble_eq_true rfl⟩) (fun r374 h374 => ?_)
                          obtain rfl : r374 = (mm (4 * k + 1)) := h374
                          refine tpi (y := nf 1 k) (hmm k (by omega) 1 (by decide)) ?_
                          refine lv_i2l hx hb dX6_digest_377 rfl ?_
                          refine lv_ladd hx hb dX6_digest_378 ?_
                          refine tpl (y := mix (mix (dgN nf (mix (dgSs (fun z => len (ck z)) pt (mix (dgCs len sz f nc ct cn (mix (dgB bf 401 4) (nI nC)) nC) (nI nS)) nS) (nI nM)) k) (nf 0 k)) (nf 1 k)) (rfl) ?_
                          refine lv_lstore_n (lv' := [(1, .long (mix (mix (dgN nf (mix (dgSs (fun z => len (ck z)) pt (mix (dgCs len sz f nc ct cn (mix (dgB bf 401 4) (nI nC)) nC) (nI nS)) nS) (nI nM)) k) (nf 0 k)) (nf 1 k))), (4, .int 1), (0, .ref mo), (3, .int (nI k))]) hx hb dX6_digest_379 rfl hl (by decide) rfl (fun ls hl => ?_)
                          refine lv_iinc (v := 2) (lv' := [(4, .int 2), (1, .long (mix (mix (dgN nf (mix (dgSs (fun z => len (ck z)) pt (mix (dgCs len sz f nc ct cn (mix (dgB bf 401 4) (nI nC)) nC) (nI nS)) nS) (nI nM)) k) (nf 0 k)) (nf 1 k))), (0, .ref mo), (3, .int (nI k))]) hx hb dX6_digest_380 hl (k := 1) rfl (by decide) (by decide) rfl (fun ls hl => ?_)
                          refine lv_goto (tgt := 359) hx hb dX6_digest_383 (by decide) ?_
                          refine lv_iload hx hb dX6_digest_359 (lv_at hl 0 rfl) ?_
                          refine lv_iconst (v := 4) hx hb dX6_digest_361 (by decide) ?_
                          refine lv_icmp_ge (tgt := 386) hx hb dX6_digest_362 (by decide) (fun h9 => absurd h9 (by decide)) (fun _ => ?_)
                          refine lv_lload_n hx hb dX6_digest_365 rfl (lv_at hl 1 rfl) ?_
                          refine lv_ldc2 hx hb hown (hts _ mH_X6_179) dX6_digest_366 ?_
                          refine lv_lmul hx hb dX6_digest_369 ?_
                          refine lv_aload_n hx hb dX6_digest_370 rfl (lv_at hl 2 rfl) ?_
                          refine lv_iload_n hx hb dX6_digest_371 rfl (lv_at hl 3 rfl) ?_
                          refine lv_iload hx hb dX6_digest_372 (lv_at hl 0 rfl) ?_
                          have hP9 := hP.sub (ws' := [oO mo 6 [.int 0, .ref a1, .int (nI nC), .ref a2, .ref a3, .ref a4, .ref a5, .ref a6, .ref a7, .ref a8, .ref a9, .int (nI nS), .ref a10, .int (nI nM), .ref a11], aI D a11 2880 mm]) [0, 11] rfl
                          refine vp_callSi (pV (rest := [.long ((mix (mix (dgN nf (mix (dgSs (fun z => len (ck z)) pt (mix (dgCs len sz f nc ct cn (mix (dgB bf 401 4) (nI nC)) nC) (nI nS)) nS) (nI nM)) k) (nf 0 k)) (nf 1 k)) * 31)]) (qc := (RX6, TX6, 15)) [.int (nI k), .int 2] 2 hC (m_metTold l D (mo := mo) (i := k) (w0 := 2) (th := 0) (a1 := a1) (nC := nC) (a2 := a2) (a3 := a3) (a4 := a4) (a5 := a5) (a6 := a6) (a7 := a7) (a8 := a8) (a9 := a9) (nS := nS) (a10 := a10) (nM := nM) (a11 := a11) (mm := mm) (by omega) (by omega)) rfl (hP 0 _ rfl) (gV mM_X6_174 mI_X6_metTold mS_X6_metTold mN_X6 mC_X6_metTold) (by decide +kernel) rfl rfl ⟨Nat.le_of_ble_eq_true rfl, Nat.le_of_ble_eq_true rfl⟩ hG hP9 rfl hl.1 rfl (Nat.le_of_ble_eq_true rfl) dX6_digest_374 ⟨Nat.le_of_ble_eq_true rfl, Nat.le_of_ble_eq_true rfl⟩) (fun r374 h374 => ?_)
                          obtain rfl : r374 = (mm (4 * k + 2)) := h374
                          refine tpi (y := nf 2 k) (hmm k (by omega) 2 (by decide)) ?_
                          refine lv_i2l hx hb dX6_digest_377 rfl ?_
                          refine lv_ladd hx hb dX6_digest_378 ?_
                          refine tpl (y := mix (mix (mix (dgN nf (mix (dgSs (fun z => len (ck z)) pt (mix (dgCs len sz f nc ct cn (mix (dgB bf 401 4) (nI nC)) nC) (nI nS)) nS) (nI nM)) k) (nf 0 k)) (nf 1 k)) (nf 2 k)) (rfl) ?_
                          refine lv_lstore_n (lv' := [(1, .long (mix (mix (mix (dgN nf (mix (dgSs (fun z => len (ck z)) pt (mix (dgCs len sz f nc ct cn (mix (dgB bf 401 4) (nI nC)) nC) (nI nS)) nS) (nI nM)) k) (nf 0 k)) (nf 1 k)) (nf 2 k))), (4, .int 2), (0, .ref mo), (3, .int (nI k))]) hx hb dX6_digest_379 rfl hl (by decide) rfl (fun ls hl => ?_)
                          refine lv_iinc (v := 3) (lv' := [(4, .int 3), (1, .long (mix (mix (mix (dgN nf (mix (dgSs (fun z => len (ck z)) pt (mix (dgCs len sz f nc ct cn (mix (dgB bf 401 4) (nI nC)) nC) (nI nS)) nS) (nI nM)) k) (nf 0 k)) (nf 1 k)) (nf 2 k))), (0, .ref mo), (3, .int (nI k))]) hx hb dX6_digest_380 hl (k := 1) rfl (by decide) (by decide) rfl (fun ls hl => ?_)
                          refine lv_goto (tgt := 359) hx hb dX6_digest_383 (by decide) ?_
                          refine lv_iload hx hb dX6_digest_359 (lv_at hl 0 rfl) ?_
                          refine lv_iconst (v := 4) hx hb dX6_digest_361 (by decide) ?_
                          refine lv_icmp_ge (tgt := 386) hx hb dX6_digest_362 (by decide) (fun h9 => absurd h9 (by decide)) (fun _ => ?_)
                          refine lv_lload_n hx hb dX6_digest_365 rfl (lv_at hl 1 rfl) ?_
                          refine lv_ldc2 hx hb hown (hts _ mH_X6_179) dX6_digest_366 ?_
                          refine lv_lmul hx hb dX6_digest_369 ?_
                          refine lv_aload_n hx hb dX6_digest_370 rfl (lv_at hl 2 rfl) ?_
                          refine lv_iload_n hx hb dX6_digest_371 rfl (lv_at hl 3 rfl) ?_
                          refine lv_iload hx hb dX6_digest_372 (lv_at hl 0 rfl) ?_
                          have hP9 := hP.sub (ws' := [oO mo 6 [.int 0, .ref a1, .int (nI nC), .ref a2, .ref a3, .ref a4, .ref a5, .ref a6, .ref a7, .ref a8, .ref a9, .int (nI nS), .ref a10, .int (nI nM), .ref a11], aI D a11 2880 mm]) [0, 11] rfl
                          refine vp_callSi (pV (rest := [.long ((mix (mix (mix (dgN nf (mix (dgSs (fun z => len (ck z)) pt (mix (dgCs len sz f nc ct cn (mix (dgB bf 401 4) (nI nC)) nC) (nI nS)) nS) (nI nM)) k) (nf 0 k)) (nf 1 k)) (nf 2 k)) * 31)]) (qc := (RX6, TX6, 15)) [.int (nI k), .int 3] 2 hC (m_metTold l D (mo := mo) (i := k) (w0 := 3) (th := 0) (a1 := a1) (nC := nC) (a2 := a2) (a3 := a3) (a4 := a4) (a5 := a5) (a6 := a6) (a7 := a7) (a8 := a8) (a9 := a9) (nS := nS) (a10 := a10) (nM := nM) (a11 := a11) (mm := mm) (by omega) (by omega)) rfl (hP 0 _ rfl) (gV mM_X6_174 mI_X6_metTold mS_X6_metTold mN_X6 mC_X6_metTold) (by decide +kernel) rfl rfl ⟨Nat.le_of_ble_eq_true rfl, Nat.le_of_ble_eq_true rfl⟩ hG hP9 rfl hl.1 rfl (Nat.le_of_ble_eq_true rfl) dX6_digest_374 ⟨Nat.le_of_ble_eq_true rfl, Nat.le_of_ble_eq_true rfl⟩) (fun r374 h374 => ?_)
                          obtain rfl : r374 = (mm (4 * k + 3)) := h374
                          refine tpi (y := nf 3 k) (hmm k (by omega) 3 (by decide)) ?_
                          refine lv_i2l hx hb dX6_digest_377 rfl ?_
                          refine lv_ladd hx hb dX6_digest_378 ?_
                          refine tpl (y := dgN nf (mix (dgSs (fun z => len (ck z)) pt (mix (dgCs len sz f nc ct cn (mix (dgB bf 401 4) (nI nC)) nC) (nI nS)) nS) (nI nM)) (k + 1)) (rfl) ?_
                          refine lv_lstore_n (lv' := [(1, .long (dgN nf (mix (dgSs (fun z => len (ck z)) pt (mix (dgCs len sz f nc ct cn (mix (dgB bf 401 4) (nI nC)) nC) (nI nS)) nS) (nI nM)) (k + 1))), (4, .int 3), (0, .ref mo), (3, .int (nI k))]) hx hb dX6_digest_379 rfl hl (by decide) rfl (fun ls hl => ?_)
                          refine lv_iinc (v := 4) (lv' := [(4, .int 4), (1, .long (dgN nf (mix (dgSs (fun z => len (ck z)) pt (mix (dgCs len sz f nc ct cn (mix (dgB bf 401 4) (nI nC)) nC) (nI nS)) nS) (nI nM)) (k + 1))), (0, .ref mo), (3, .int (nI k))]) hx hb dX6_digest_380 hl (k := 1) rfl (by decide) (by decide) rfl (fun ls hl => ?_)
                          refine lv_goto (tgt := 359) hx hb dX6_digest_383 (by decide) ?_
                          refine lv_iload hx hb dX6_digest_359 (lv_at hl 0 rfl) ?_
                          refine lv_iconst (v := 4) hx hb dX6_digest_361 (by decide) ?_
                          refine lv_icmp_ge (tgt := 386) hx hb dX6_digest_362 (by decide) (fun _ => ?_) (fun h9 => (h9 (by decide)).elim)
                          refine lv_iinc (v := nI (k + 1)) (lv' := [(3, .int (nI (k + 1))), (4, .int 4), (1, .long (dgN nf (mix (dgSs (fun z => len (ck z)) pt (mix (dgCs len sz f nc ct cn (mix (dgB bf 401 4) (nI nC)) nC) (nI nS)) nS) (nI nM)) (k + 1))), (0, .ref mo)]) hx hb dX6_digest_386 hl (k := 3) rfl (nI_1 _) (by decide) rfl (fun ls hl => ?_)
                          refine lv_goto (tgt := 343) hx hb dX6_digest_389 (by decide) ?_
                          exact ih343 (k + 1) (by omega) (by omega) _ (lv_sub hl [3, 2, 0] rfl)
                    exact loop343 _ 0 (Nat.lt_succ_self _) (by omega) _ (lv_sub hl [2, 1, 0] rfl)
                  · skip
                    have n289 := mt (nI_leI (a := nS) (b := i) (by omega) (by omega)).mpr c289
                    refine lv_iconst (v := 0) hx hb dX6_digest_292 (by decide) ?_
                    refine lv_istore (lv' := [(4, .int 0), (0, .ref mo), (1, .long (dgSs (fun z => len (ck z)) pt (mix (dgCs len sz f nc ct cn (mix (dgB bf 401 4) (nI nC)) nC) (nI nS)) i)), (3, .int (nI i))]) hx hb dX6_digest_293 hl (by decide) rfl (fun ls hl => ?_)
                    have loop295 : ∀ (d9 : Nat) (w : Nat), (13 - w) < d9 → (w ≤ 13) → ∀ (ls : Array Slot), lv_has ls 7 [(0, .ref mo), (1, .long (dgB (factS (len (ck i)) (pt i)) (dgSs (fun z => len (ck z)) pt (mix (dgCs len sz f nc ct cn (mix (dgB bf 401 4) (nI nC)) nC) (nI nS)) i) w)), (3, .int (nI i)), (4, .int (nI w))] → W p l e ({ frames := 5, cells := 0, slots := 0, locals := 107 } : Room) s m ([.ref mo] : List Value).toArray below meth c H locs 0 0 (MQ below (va_Ql (fun v _ => v = dgAll bf nC len sz f nc ct cn nS (fun z => len (ck z)) pt nf (nI nM) (min nM 100)) (AT D A (fun _ : Unit => [oO mo 6 [.int 0, .ref a1, .int (nI nC), .ref a2, .ref a3, .ref a4, .ref a5, .ref a6, .ref a7, .ref a8, .ref a9, .int (nI nS), .ref a10, .int (nI nM), .ref a11], aI D a1 4 bs, aI D a2 6 ln, aI D a3 24 ks, aI D a4 384 tm, aI D a5 384 wo, aI D a6 384 ea, aI D a7 6 qs, aI D a8 48 qt, aI D a9 48 qn, aI D a10 130 pa, aI D a11 2880 mm])) A) ([.ref mo] : List Value).toArray s 0 0 A) (F0 m 295 ls []) := by
                      intro d9
                      induction d9 with
                      | zero => intro w hd; exact absurd hd (Nat.not_lt_zero _)
                      | succ d9 ih295 =>
                        intro w hd295 hw ls hl
                        refine lv_iload hx hb dX6_digest_295 (lv_at hl 3 rfl) ?_
                        refine lv_bipush (v := 13) hx hb dX6_digest_297 (by decide) ?_
                        refine lv_icmp_ge (tgt := 323) hx hb dX6_digest_299 (by decide) (fun c299 => ?_) (fun c299 => ?_)
                        · skip
                          have n299 := (nI_leI (a := 13) (b := w) (by omega) (by omega)).mp c299
                          have hk9 : w = 13 := by omega
                          subst w
                          refine lv_iinc (v := nI (i + 1)) (lv' := [(3, .int (nI (i + 1))), (0, .ref mo), (1, .long (dgB (factS (len (ck i)) (pt i)) (dgSs (fun z => len (ck z)) pt (mix (dgCs len sz f nc ct cn (mix (dgB bf 401 4) (nI nC)) nC) (nI nS)) i) 13)), (4, .int (nI 13))]) hx hb dX6_digest_323 hl (k := 2) rfl (nI_1 _) (by decide) rfl (fun ls hl => ?_)
                          refine lv_goto (tgt := 284) hx hb dX6_digest_326 (by decide) ?_
                          exact ih284 (i + 1) (by omega) (by omega) _ (lv_sub hl [1, 2, 0] rfl)
                        · skip
                          have n299 := mt (nI_leI (a := 13) (b := w) (by omega) (by omega)).mpr c299
                          refine lv_lload_n hx hb dX6_digest_302 rfl (lv_at hl 1 rfl) ?_
                          refine lv_ldc2 hx hb hown (hts _ mH_X6_179) dX6_digest_303 ?_
                          refine lv_lmul hx hb dX6_digest_306 ?_
                          refine lv_aload_n hx hb dX6_digest_307 rfl (lv_at hl 0 rfl) ?_
                          refine lv_iload_n hx hb dX6_digest_308 rfl (lv_at hl 2 rfl) ?_
                          refine lv_iload hx hb dX6_digest_309 (lv_at hl 3 rfl) ?_
                          have hP9 := hP.sub (ws' := [oO mo 6 [.int 0, .ref a1, .int (nI nC), .ref a2, .ref a3, .ref a4, .ref a5, .ref a6, .ref a7, .ref a8, .ref a9, .int (nI nS), .ref a10, .int (nI nM), .ref a11], aI D a2 6 ln, aI D a10 130 pa]) [0, 2, 10] rfl
                          refine vp_callSi (pV (rest := [.long ((dgB (factS (len (ck i)) (pt i)) (dgSs (fun z => len (ck z)) pt (mix (dgCs len sz f nc ct cn (mix (dgB bf 401 4) (nI nC)) nC) (nI nS)) i) w) * 31)]) (qc := (RX6, TX6, 15)) [.int (nI i), .int (nI w)] 2 hC (m_stripTold l D (pt := pt i) (c0 := ck i) (len := len (ck i)) (w0 := w) (mo := mo) (i := i) (th := 0) (a1 := a1) (nC := nC) (a2 := a2) (a3 := a3) (a4 := a4) (a5 := a5) (a6 := a6) (a7 := a7) (a8 := a8) (a9 := a9) (nS := nS) (a10 := a10) (nM := nM) (a11 := a11) (ln := ln) (pa := pa) (by omega) (hpa i (by omega)) (hc0 i (by omega)) (hc6 i (by omega)) (hlq i (by omega)) (pos1 ((fa_le _ _).mpr (hO i (by omega)).b5.1)) (by omega)) rfl (hP 0 _ rfl) (gV mM_X6_135 mI_X6_stripTold mS_X6_stripTold mN_X6 mC_X6_stripTold) (by decide +kernel) rfl rfl ⟨Nat.le_of_ble_eq_true rfl, Nat.le_of_ble_eq_true rfl⟩ hG hP9 rfl hl.1 rfl (Nat.le_of_ble_eq_true rfl) dX6_digest_311 ⟨Nat.le_of_ble_eq_true rfl, Nat.le_of_ble_eq_true rfl⟩) (fun r311 h311 => ?_)
                          obtain rfl : r311 = (factS (len (ck i)) (pt i) w) := h311
                          refine lv_i2l hx hb dX6_digest_314 rfl ?_
                          refine lv_ladd hx hb dX6_digest_315 ?_
                          refine tpl (y := dgB (factS (len (ck i)) (pt i)) (dgSs (fun z => len (ck z)) pt (mix (dgCs len sz f nc ct cn (mix (dgB bf 401 4) (nI nC)) nC) (nI nS)) i) (w + 1)) (rfl) ?_
                          refine lv_lstore_n (lv' := [(1, .long (dgB (factS (len (ck i)) (pt i)) (dgSs (fun z => len (ck z)) pt (mix (dgCs len sz f nc ct cn (mix (dgB bf 401 4) (nI nC)) nC) (nI nS)) i) (w + 1))), (0, .ref mo), (3, .int (nI i)), (4, .int (nI w))]) hx hb dX6_digest_316 rfl hl (by decide) rfl (fun ls hl => ?_)
                          refine lv_iinc (v := nI (w + 1)) (lv' := [(4, .int (nI (w + 1))), (1, .long (dgB (factS (len (ck i)) (pt i)) (dgSs (fun z => len (ck z)) pt (mix (dgCs len sz f nc ct cn (mix (dgB bf 401 4) (nI nC)) nC) (nI nS)) i) (w + 1))), (0, .ref mo), (3, .int (nI i))]) hx hb dX6_digest_317 hl (k := 3) rfl (nI_1 _) (by decide) rfl (fun ls hl => ?_)
                          refine lv_goto (tgt := 295) hx hb dX6_digest_320 (by decide) ?_
                          exact ih295 (w + 1) (by omega) (by omega) _ (lv_sub hl [2, 1, 3, 0] rfl)
                    exact loop295 _ 0 (Nat.lt_succ_self _) (by omega) _ (lv_sub hl [1, 2, 3, 0] rfl)
              exact loop284 _ 0 (Nat.lt_succ_self _) (by omega) _ (lv_sub hl [2, 1, 0] rfl)
            · skip
              have n69 := mt (nI_leI (a := nC) (b := i) (by omega) (by omega)).mpr c69
              have hnc9 := hnc i (by omega)
              refine lv_lload_n hx hb dX6_digest_72 rfl (lv_at hl 1 rfl) ?_
              refine lv_ldc2 hx hb hown (hts _ mH_X6_179) dX6_digest_73 ?_
              refine lv_lmul hx hb dX6_digest_76 ?_
              refine lv_aload_n hx hb dX6_digest_77 rfl (lv_at hl 0 rfl) ?_
              refine va_get (D := D) (ci := 6) (v := .ref a2) (C := RX6) (T := TX6) (N := 15) hx hb hts inlX6 hown hG.K hP 0 rfl rfl 3 (by decide) (hts _ mF_X6_13) (fun _ h9 => h9) rfl dX6_digest_78 ?_
              refine lv_iload_n hx hb dX6_digest_81 rfl (lv_at hl 2 rfl) ?_
              refine ild (n := 6) (j := i) hx hb hG hP 2 rfl (by omega) (by omega) dX6_digest_82 ?_
              refine tpi (y := len i) (hln i (by omega)) ?_
              refine lv_i2l hx hb dX6_digest_83 rfl ?_
              refine lv_ladd hx hb dX6_digest_84 ?_
              refine tpl (y := dgTs (len i) (sz i) (f i) (dgCs len sz f nc ct cn (mix (dgB bf 401 4) (nI nC)) i) 0) (rfl) ?_
              refine lv_lstore_n (lv' := [(1, .long (dgTs (len i) (sz i) (f i) (dgCs len sz f nc ct cn (mix (dgB bf 401 4) (nI nC)) i) 0)), (0, .ref mo), (3, .int (nI i))]) hx hb dX6_digest_85 rfl hl (by decide) rfl (fun ls hl => ?_)
              refine lv_iconst (v := 4) hx hb dX6_digest_86 (by decide) ?_
              refine lv_iload_n hx hb dX6_digest_87 rfl (lv_at hl 2 rfl) ?_
              refine lv_imul hx hb dX6_digest_88 ?_
              refine tpi (y := nI (4 * i)) (pk_mul 4 i) ?_
              refine lv_istore (lv' := [(4, .int (nI (4 * i))), (1, .long (dgTs (len i) (sz i) (f i) (dgCs len sz f nc ct cn (mix (dgB bf 401 4) (nI nC)) i) 0)), (0, .ref mo), (3, .int (nI i))]) hx hb dX6_digest_89 hl (by decide) rfl (fun ls hl => ?_)
              have loop91 : ∀ (d9 : Nat) (j : Nat), (4 - j) < d9 → (j ≤ 4) → ∀ (ls : Array Slot), lv_has ls 7 [(0, .ref mo), (1, .long (dgTs (len i) (sz i) (f i) (dgCs len sz f nc ct cn (mix (dgB bf 401 4) (nI nC)) i) j)), (3, .int (nI i)), (4, .int (nI (4 * i + j)))] → W p l e ({ frames := 5, cells := 0, slots := 0, locals := 107 } : Room) s m ([.ref mo] : List Value).toArray below meth c H locs 0 0 (MQ below (va_Ql (fun v _ => v = dgAll bf nC len sz f nc ct cn nS (fun z => len (ck z)) pt nf (nI nM) (min nM 100)) (AT D A (fun _ : Unit => [oO mo 6 [.int 0, .ref a1, .int (nI nC), .ref a2, .ref a3, .ref a4, .ref a5, .ref a6, .ref a7, .ref a8, .ref a9, .int (nI nS), .ref a10, .int (nI nM), .ref a11], aI D a1 4 bs, aI D a2 6 ln, aI D a3 24 ks, aI D a4 384 tm, aI D a5 384 wo, aI D a6 384 ea, aI D a7 6 qs, aI D a8 48 qt, aI D a9 48 qn, aI D a10 130 pa, aI D a11 2880 mm])) A) ([.ref mo] : List Value).toArray s 0 0 A) (F0 m 91 ls []) := by
                intro d9
                induction d9 with
                | zero => intro j hd; exact absurd hd (Nat.not_lt_zero _)
                | succ d9 ih91 =>
                  intro j hd91 hj ls hl
                  refine lv_iload hx hb dX6_digest_91 (lv_at hl 3 rfl) ?_
                  refine lv_iconst (v := 4) hx hb dX6_digest_93 (by decide) ?_
                  refine lv_iload_n hx hb dX6_digest_94 rfl (lv_at hl 2 rfl) ?_
                  refine lv_imul hx hb dX6_digest_95 ?_
                  refine tpi (y := nI (4 * i)) (pk_mul 4 i) ?_
                  refine lv_iconst (v := 4) hx hb dX6_digest_96 (by decide) ?_
                  refine lv_iadd hx hb dX6_digest_97 ?_
                  refine tpi (y := nI ((4 * i) + 4)) (nI_add (4 * i) 4) ?_
                  refine lv_icmp_ge (tgt := 194) hx hb dX6_digest_98 (by decide) (fun c98 => ?_) (fun c98 => ?_)
                  · skip
                    have n98 := (nI_leI (a := (4 * i) + 4) (b := 4 * i + j) (by omega) (by omega)).mp c98
                    have hk9 : j = 4 := by omega
                    subst j
                    refine lv_lload_n hx hb dX6_digest_194 rfl (lv_at hl 1 rfl) ?_
                    refine lv_ldc2 hx hb hown (hts _ mH_X6_179) dX6_digest_195 ?_
                    refine lv_lmul hx hb dX6_digest_198 ?_
                    refine lv_aload_n hx hb dX6_digest_199 rfl (lv_at hl 0 rfl) ?_
                    refine va_get (D := D) (ci := 6) (v := .ref a7) (C := RX6) (T := TX6) (N := 15) hx hb hts inlX6 hown hG.K hP 0 rfl rfl 8 (by decide) (hts _ mF_X6_28) (fun _ h9 => h9) rfl dX6_digest_200 ?_
                    refine lv_iload_n hx hb dX6_digest_203 rfl (lv_at hl 2 rfl) ?_
                    refine ild (n := 6) (j := i) hx hb hG hP 7 rfl (by omega) (by omega) dX6_digest_204 ?_
                    refine tpi (y := nI (nc i)) (hqs i (by omega)) ?_
                    refine lv_i2l hx hb dX6_digest_205 rfl ?_
                    refine lv_ladd hx hb dX6_digest_206 ?_
                    refine tpl (y := dgC (ct i) (cn i) (mix (dgTs (len i) (sz i) (f i) (dgCs len sz f nc ct cn (mix (dgB bf 401 4) (nI nC)) i) 4) (nI (nc i))) 0) (rfl) ?_
                    refine lv_lstore_n (lv' := [(1, .long (dgC (ct i) (cn i) (mix (dgTs (len i) (sz i) (f i) (dgCs len sz f nc ct cn (mix (dgB bf 401 4) (nI nC)) i) 4) (nI (nc i))) 0)), (0, .ref mo), (3, .int (nI i)), (4, .int (nI (4 * i + 4)))]) hx hb dX6_digest_207 rfl hl (by decide) rfl (fun ls hl => ?_)
                    refine lv_bipush (v := 8) hx hb dX6_digest_208 (by decide) ?_
                    refine lv_iload_n hx hb dX6_digest_210 rfl (lv_at hl 2 rfl) ?_
                    refine lv_imul hx hb dX6_digest_211 ?_
                    refine tpi (y := nI (8 * i)) (pk_mul 8 i) ?_
                    refine lv_istore (lv' := [(4, .int (nI (8 * i))), (1, .long (dgC (ct i) (cn i) (mix (dgTs (len i) (sz i) (f i) (dgCs len sz f nc ct cn (mix (dgB bf 401 4) (nI nC)) i) 4) (nI (nc i))) 0)), (0, .ref mo), (3, .int (nI i))]) hx hb dX6_digest_212 hl (by decide) rfl (fun ls hl => ?_)
                    have loop214 : ∀ (d9 : Nat) (k : Nat), (nc i - k) < d9 → (k ≤ nc i) → ∀ (ls : Array Slot), lv_has ls 7 [(0, .ref mo), (1, .long (dgC (ct i) (cn i) (mix (dgTs (len i) (sz i) (f i) (dgCs len sz f nc ct cn (mix (dgB bf 401 4) (nI nC)) i) 4) (nI (nc i))) k)), (3, .int (nI i)), (4, .int (nI (8 * i + k)))] → W p l e ({ frames := 5, cells := 0, slots := 0, locals := 107 } : Room) s m ([.ref mo] : List Value).toArray below meth c H locs 0 0 (MQ below (va_Ql (fun v _ => v = dgAll bf nC len sz f nc ct cn nS (fun z => len (ck z)) pt nf (nI nM) (min nM 100)) (AT D A (fun _ : Unit => [oO mo 6 [.int 0, .ref a1, .int (nI nC), .ref a2, .ref a3, .ref a4, .ref a5, .ref a6, .ref a7, .ref a8, .ref a9, .int (nI nS), .ref a10, .int (nI nM), .ref a11], aI D a1 4 bs, aI D a2 6 ln, aI D a3 24 ks, aI D a4 384 tm, aI D a5 384 wo, aI D a6 384 ea, aI D a7 6 qs, aI D a8 48 qt, aI D a9 48 qn, aI D a10 130 pa, aI D a11 2880 mm])) A) ([.ref mo] : List Value).toArray s 0 0 A) (F0 m 214 ls []) := by
                      intro d9
                      induction d9 with
                      | zero => intro k hd; exact absurd hd (Nat.not_lt_zero _)
                      | succ d9 ih214 =>
                        intro k hd214 hk ls hl
                        refine lv_iload hx hb dX6_digest_214 (lv_at hl 3 rfl) ?_
                        refine lv_bipush (v := 8) hx hb dX6_digest_216 (by decide) ?_
                        refine lv_iload_n hx hb dX6_digest_218 rfl (lv_at hl 2 rfl) ?_
                        refine lv_imul hx hb dX6_digest_219 ?_
                        refine tpi (y := nI (8 * i)) (pk_mul 8 i) ?_
                        refine lv_aload_n hx hb dX6_digest_220 rfl (lv_at hl 0 rfl) ?_
                        refine va_get (D := D) (ci := 6) (v := .ref a7) (C := RX6) (T := TX6) (N := 15) hx hb hts inlX6 hown hG.K hP 0 rfl rfl 8 (by decide) (hts _ mF_X6_28) (fun _ h9 => h9) rfl dX6_digest_221 ?_
                        refine lv_iload_n hx hb dX6_digest_224 rfl (lv_at hl 2 rfl) ?_
                        refine ild (n := 6) (j := i) hx hb hG hP 7 rfl (by omega) (by omega) dX6_digest_225 ?_
                        refine tpi (y := nI (nc i)) (hqs i (by omega)) ?_
                        refine lv_iadd hx hb dX6_digest_226 ?_
                        refine tpi (y := nI ((8 * i) + (nc i))) (nI_add (8 * i) (nc i)) ?_
                        refine lv_icmp_ge (tgt := 264) hx hb dX6_digest_227 (by decide) (fun c227 => ?_) (fun c227 => ?_)
                        · skip
                          have n227 := (nI_leI (a := (8 * i) + (nc i)) (b := 8 * i + k) (by omega) (by omega)).mp c227
                          have hk9 : k = nc i := by omega
                          subst k
                          refine lv_iinc (v := nI (i + 1)) (lv' := [(3, .int (nI (i + 1))), (0, .ref mo), (1, .long (dgC (ct i) (cn i) (mix (dgTs (len i) (sz i) (f i) (dgCs len sz f nc ct cn (mix (dgB bf 401 4) (nI nC)) i) 4) (nI (nc i))) (nc i))), (4, .int (nI (8 * i + (nc i))))]) hx hb dX6_digest_264 hl (k := 2) rfl (nI_1 _) (by decide) rfl (fun ls hl => ?_)
                          refine lv_goto (tgt := 64) hx hb dX6_digest_267 (by decide) ?_
                          exact ih64 (i + 1) (by omega) (by omega) _ (lv_sub hl [1, 2, 0] rfl)
                        · skip
                          have n227 := mt (nI_leI (a := (8 * i) + (nc i)) (b := 8 * i + k) (by omega) (by omega)).mpr c227
                          refine lv_lload_n hx hb dX6_digest_230 rfl (lv_at hl 1 rfl) ?_
                          refine lv_ldc2 hx hb hown (hts _ mH_X6_179) dX6_digest_231 ?_
                          refine lv_lmul hx hb dX6_digest_234 ?_
                          refine lv_aload_n hx hb dX6_digest_235 rfl (lv_at hl 0 rfl) ?_
                          refine va_get (D := D) (ci := 6) (v := .ref a8) (C := RX6) (T := TX6) (N := 15) hx hb hts inlX6 hown hG.K hP 0 rfl rfl 9 (by decide) (hts _ mF_X6_31) (fun _ h9 => h9) rfl dX6_digest_236 ?_
                          refine lv_iload hx hb dX6_digest_239 (lv_at hl 3 rfl) ?_
                          refine ild (n := 48) (j := 8 * i + k) hx hb hG hP 8 rfl (by omega) (by omega) dX6_digest_241 ?_
                          refine tpi (y := ct i k) (hqt i (by omega) k (by omega)) ?_
                          refine lv_i2l hx hb dX6_digest_242 rfl ?_
                          refine lv_ladd hx hb dX6_digest_243 ?_
                          refine lv_ldc2 hx hb hown (hts _ mH_X6_179) dX6_digest_244 ?_
                          refine lv_lmul hx hb dX6_digest_247 ?_
                          refine lv_aload_n hx hb dX6_digest_248 rfl (lv_at hl 0 rfl) ?_
                          refine va_get (D := D) (ci := 6) (v := .ref a9) (C := RX6) (T := TX6) (N := 15) hx hb hts inlX6 hown hG.K hP 0 rfl rfl 10 (by decide) (hts _ mF_X6_34) (fun _ h9 => h9) rfl dX6_digest_249 ?_
                          refine lv_iload hx hb dX6_digest_252 (lv_at hl 3 rfl) ?_
                          refine ild (n := 48) (j := 8 * i + k) hx hb hG hP 9 rfl (by omega) (by omega) dX6_digest_254 ?_
                          refine tpi (y := cn i k) (hqn i (by omega) k (by omega)) ?_
                          refine lv_i2l hx hb dX6_digest_255 rfl ?_
                          refine lv_ladd hx hb dX6_digest_256 ?_
                          refine tpl (y := dgC (ct i) (cn i) (mix (dgTs (len i) (sz i) (f i) (dgCs len sz f nc ct cn (mix (dgB bf 401 4) (nI nC)) i) 4) (nI (nc i))) (k + 1)) (rfl) ?_
                          refine lv_lstore_n (lv' := [(1, .long (dgC (ct i) (cn i) (mix (dgTs (len i) (sz i) (f i) (dgCs len sz f nc ct cn (mix (dgB bf 401 4) (nI nC)) i) 4) (nI (nc i))) (k + 1))), (0, .ref mo), (3, .int (nI i)), (4, .int (nI (8 * i + k)))]) hx hb dX6_digest_257 rfl hl (by decide) rfl (fun ls hl => ?_)
                          refine lv_iinc (v := nI (8 * i + k + 1)) (lv' := [(4, .int (nI (8 * i + k + 1))), (1, .long (dgC (ct i) (cn i) (mix (dgTs (len i) (sz i) (f i) (dgCs len sz f nc ct cn (mix (dgB bf 401 4) (nI nC)) i) 4) (nI (nc i))) (k + 1))), (0, .ref mo), (3, .int (nI i))]) hx hb dX6_digest_258 hl (k := 3) rfl (nI_1 _) (by decide) rfl (fun ls hl => ?_)
                          refine lv_goto (tgt := 214) hx hb dX6_digest_261 (by decide) ?_
                          exact ih214 (k + 1) (by omega) (by omega) _ (lv_sub hl [2, 1, 3, 0] rfl)
                    exact loop214 _ 0 (Nat.lt_succ_self _) (by omega) _ (lv_sub hl [2, 1, 3, 0] rfl)
                  · skip
                    have n98 := mt (nI_leI (a := (4 * i) + 4) (b := 4 * i + j) (by omega) (by omega)).mpr c98
                    have h169 := h16 i (by omega) j (by omega)
                    refine lv_lload_n hx hb dX6_digest_101 rfl (lv_at hl 1 rfl) ?_
                    refine lv_ldc2 hx hb hown (hts _ mH_X6_179) dX6_digest_102 ?_
                    refine lv_lmul hx hb dX6_digest_105 ?_
                    refine lv_aload_n hx hb dX6_digest_106 rfl (lv_at hl 0 rfl) ?_
                    refine va_get (D := D) (ci := 6) (v := .ref a3) (C := RX6) (T := TX6) (N := 15) hx hb hts inlX6 hown hG.K hP 0 rfl rfl 4 (by decide) (hts _ mF_X6_16) (fun _ h9 => h9) rfl dX6_digest_107 ?_
                    refine lv_iload hx hb dX6_digest_110 (lv_at hl 3 rfl) ?_
                    refine ild (n := 24) (j := 4 * i + j) hx hb hG hP 3 rfl (by omega) (by omega) dX6_digest_112 ?_
                    refine tpi (y := nI (sz i j)) (hks i (by omega) j (by omega)) ?_
                    refine lv_i2l hx hb dX6_digest_113 rfl ?_
                    refine lv_ladd hx hb dX6_digest_114 ?_
                    refine tpl (y := dgT (f i (3 * j)) (f i (3 * j + 1)) (f i (3 * j + 2)) (mix (dgTs (len i) (sz i) (f i) (dgCs len sz f nc ct cn (mix (dgB bf 401 4) (nI nC)) i) j) (nI (sz i j))) 0) (rfl) ?_
                    refine lv_lstore_n (lv' := [(1, .long (dgT (f i (3 * j)) (f i (3 * j + 1)) (f i (3 * j + 2)) (mix (dgTs (len i) (sz i) (f i) (dgCs len sz f nc ct cn (mix (dgB bf 401 4) (nI nC)) i) j) (nI (sz i j))) 0)), (0, .ref mo), (3, .int (nI i)), (4, .int (nI (4 * i + j)))]) hx hb dX6_digest_115 rfl hl (by decide) rfl (fun ls hl => ?_)
                    refine lv_iload hx hb dX6_digest_116 (lv_at hl 3 rfl) ?_
                    have hP9 : va_P D cls [] H := fun k q h => by simp at h
                    refine vp_callSi (pS (rest := []) [.int (nI (4 * i + j))] 1 hC (m_row l D (j := 4 * i + j) ) (gS mM_X6_78 mT_X6_row mN_X6 mC_X6_row) (by decide +kernel) rfl rfl ⟨Nat.le_of_ble_eq_true rfl, Nat.le_of_ble_eq_true rfl⟩ hG hP9 rfl hl.1 rfl (Nat.le_of_ble_eq_true rfl) dX6_digest_118 ⟨Nat.le_of_ble_eq_true rfl, Nat.le_of_ble_eq_true rfl⟩) (fun r118 h118 => ?_)
                    obtain rfl : r118 = (nI (16 * (4 * i + j))) := h118
                    refine lv_istore (lv' := [(5, .int (nI (16 * (4 * i + j)))), (1, .long (dgT (f i (3 * j)) (f i (3 * j + 1)) (f i (3 * j + 2)) (mix (dgTs (len i) (sz i) (f i) (dgCs len sz f nc ct cn (mix (dgB bf 401 4) (nI nC)) i) j) (nI (sz i j))) 0)), (0, .ref mo), (3, .int (nI i)), (4, .int (nI (4 * i + j)))]) hx hb dX6_digest_121 hl (by decide) rfl (fun ls hl => ?_)
                    have loop123 : ∀ (d9 : Nat) (k : Nat), (sz i j - k) < d9 → (k ≤ sz i j) → ∀ (ls : Array Slot), lv_has ls 7 [(0, .ref mo), (1, .long (dgT (f i (3 * j)) (f i (3 * j + 1)) (f i (3 * j + 2)) (mix (dgTs (len i) (sz i) (f i) (dgCs len sz f nc ct cn (mix (dgB bf 401 4) (nI nC)) i) j) (nI (sz i j))) k)), (3, .int (nI i)), (4, .int (nI (4 * i + j))), (5, .int (nI (16 * (4 * i + j) + k)))] → W p l e ({ frames := 5, cells := 0, slots := 0, locals := 107 } : Room) s m ([.ref mo] : List Value).toArray below meth c H locs 0 0 (MQ below (va_Ql (fun v _ => v = dgAll bf nC len sz f nc ct cn nS (fun z => len (ck z)) pt nf (nI nM) (min nM 100)) (AT D A (fun _ : Unit => [oO mo 6 [.int 0, .ref a1, .int (nI nC), .ref a2, .ref a3, .ref a4, .ref a5, .ref a6, .ref a7, .ref a8, .ref a9, .int (nI nS), .ref a10, .int (nI nM), .ref a11], aI D a1 4 bs, aI D a2 6 ln, aI D a3 24 ks, aI D a4 384 tm, aI D a5 384 wo, aI D a6 384 ea, aI D a7 6 qs, aI D a8 48 qt, aI D a9 48 qn, aI D a10 130 pa, aI D a11 2880 mm])) A) ([.ref mo] : List Value).toArray s 0 0 A) (F0 m 123 ls []) := by
                      intro d9
                      induction d9 with
                      | zero => intro k hd; exact absurd hd (Nat.not_lt_zero _)
                      | succ d9 ih123 =>
                        intro k hd123 hk ls hl
                        refine lv_iload hx hb dX6_digest_123 (lv_at hl 4 rfl) ?_
                        refine lv_iload hx hb dX6_digest_125 (lv_at hl 3 rfl) ?_
                        have hP9 : va_P D cls [] H := fun k q h => by simp at h
                        refine vp_callSi (pS (rest := [.int (nI (16 * (4 * i + j) + k))]) [.int (nI (4 * i + j))] 1 hC (m_row l D (j := 4 * i + j) ) (gS mM_X6_78 mT_X6_row mN_X6 mC_X6_row) (by decide +kernel) rfl rfl ⟨Nat.le_of_ble_eq_true rfl, Nat.le_of_ble_eq_true rfl⟩ hG hP9 rfl hl.1 rfl (Nat.le_of_ble_eq_true rfl) dX6_digest_127 ⟨Nat.le_of_ble_eq_true rfl, Nat.le_of_ble_eq_true rfl⟩) (fun r127 h127 => ?_)
                        obtain rfl : r127 = (nI (16 * (4 * i + j))) := h127
                        refine lv_aload_n hx hb dX6_digest_130 rfl (lv_at hl 0 rfl) ?_
                        refine va_get (D := D) (ci := 6) (v := .ref a3) (C := RX6) (T := TX6) (N := 15) hx hb hts inlX6 hown hG.K hP 0 rfl rfl 4 (by decide) (hts _ mF_X6_16) (fun _ h9 => h9) rfl dX6_digest_131 ?_
                        refine lv_iload hx hb dX6_digest_134 (lv_at hl 3 rfl) ?_
                        refine ild (n := 24) (j := 4 * i + j) hx hb hG hP 3 rfl (by omega) (by omega) dX6_digest_136 ?_
                        refine tpi (y := nI (sz i j)) (hks i (by omega) j (by omega)) ?_
                        refine lv_iadd hx hb dX6_digest_137 ?_
                        refine tpi (y := nI ((16 * (4 * i + j)) + (sz i j))) (nI_add (16 * (4 * i + j)) (sz i j)) ?_
                        refine lv_icmp_ge (tgt := 188) hx hb dX6_digest_138 (by decide) (fun c138 => ?_) (fun c138 => ?_)
                        · skip
                          have n138 := (nI_leI (a := (16 * (4 * i + j)) + (sz i j)) (b := 16 * (4 * i + j) + k) (by omega) (by omega)).mp c138
                          have hk9 : k = sz i j := by omega
                          subst k
                          refine lv_iinc (v := nI (4 * i + j + 1)) (lv' := [(4, .int (nI (4 * i + j + 1))), (0, .ref mo), (1, .long (dgT (f i (3 * j)) (f i (3 * j + 1)) (f i (3 * j + 2)) (mix (dgTs (len i) (sz i) (f i) (dgCs len sz f nc ct cn (mix (dgB bf 401 4) (nI nC)) i) j) (nI (sz i j))) (sz i j))), (3, .int (nI i)), (5, .int (nI (16 * (4 * i + j) + (sz i j))))]) hx hb dX6_digest_188 hl (k := 3) rfl (nI_1 _) (by decide) rfl (fun ls hl => ?_)
                          refine lv_goto (tgt := 91) hx hb dX6_digest_191 (by decide) ?_
                          exact ih91 (j + 1) (by omega) (by omega) _ (lv_sub hl [1, 2, 3, 0] rfl)
                        · skip
                          have n138 := mt (nI_leI (a := (16 * (4 * i + j)) + (sz i j)) (b := 16 * (4 * i + j) + k) (by omega) (by omega)).mpr c138
                          refine lv_lload_n hx hb dX6_digest_141 rfl (lv_at hl 1 rfl) ?_
                          refine lv_ldc2 hx hb hown (hts _ mH_X6_179) dX6_digest_142 ?_
                          refine lv_lmul hx hb dX6_digest_145 ?_
                          refine lv_aload_n hx hb dX6_digest_146 rfl (lv_at hl 0 rfl) ?_
                          refine va_get (D := D) (ci := 6) (v := .ref a4) (C := RX6) (T := TX6) (N := 15) hx hb hts inlX6 hown hG.K hP 0 rfl rfl 5 (by decide) (hts _ mF_X6_19) (fun _ h9 => h9) rfl dX6_digest_147 ?_
                          refine lv_iload hx hb dX6_digest_150 (lv_at hl 4 rfl) ?_
                          refine ild (n := 384) (j := 16 * (4 * i + j) + k) hx hb hG hP 4 rfl (by omega) (by omega) dX6_digest_152 ?_
                          refine tpi (y := f i (3 * j) k) (htm i (by omega) j (by omega) k (by omega)) ?_
                          refine lv_i2l hx hb dX6_digest_153 rfl ?_
                          refine lv_ladd hx hb dX6_digest_154 ?_
                          refine lv_ldc2 hx hb hown (hts _ mH_X6_179) dX6_digest_155 ?_
                          refine lv_lmul hx hb dX6_digest_158 ?_
                          refine lv_aload_n hx hb dX6_digest_159 rfl (lv_at hl 0 rfl) ?_
                          refine va_get (D := D) (ci := 6) (v := .ref a5) (C := RX6) (T := TX6) (N := 15) hx hb hts inlX6 hown hG.K hP 0 rfl rfl 6 (by decide) (hts _ mF_X6_22) (fun _ h9 => h9) rfl dX6_digest_160 ?_
                          refine lv_iload hx hb dX6_digest_163 (lv_at hl 4 rfl) ?_
                          refine ild (n := 384) (j := 16 * (4 * i + j) + k) hx hb hG hP 5 rfl (by omega) (by omega) dX6_digest_165 ?_
                          refine tpi (y := f i (3 * j + 1) k) (hwo i (by omega) j (by omega) k (by omega)) ?_
                          refine lv_i2l hx hb dX6_digest_166 rfl ?_
                          refine lv_ladd hx hb dX6_digest_167 ?_
                          refine lv_ldc2 hx hb hown (hts _ mH_X6_179) dX6_digest_168 ?_
                          refine lv_lmul hx hb dX6_digest_171 ?_
                          refine lv_aload_n hx hb dX6_digest_172 rfl (lv_at hl 0 rfl) ?_
                          refine va_get (D := D) (ci := 6) (v := .ref a6) (C := RX6) (T := TX6) (N := 15) hx hb hts inlX6 hown hG.K hP 0 rfl rfl 7 (by decide) (hts _ mF_X6_25) (fun _ h9 => h9) rfl dX6_digest_173 ?_
                          refine lv_iload hx hb dX6_digest_176 (lv_at hl 4 rfl) ?_
                          refine ild (n := 384) (j := 16 * (4 * i + j) + k) hx hb hG hP 6 rfl (by omega) (by omega) dX6_digest_178 ?_
                          refine tpi (y := f i (3 * j + 2) k) (hea i (by omega) j (by omega) k (by omega)) ?_
                          refine lv_i2l hx hb dX6_digest_179 rfl ?_
                          refine lv_ladd hx hb dX6_digest_180 ?_
                          refine tpl (y := dgT (f i (3 * j)) (f i (3 * j + 1)) (f i (3 * j + 2)) (mix (dgTs (len i) (sz i) (f i) (dgCs len sz f nc ct cn (mix (dgB bf 401 4) (nI nC)) i) j) (nI (sz i j))) (k + 1)) (rfl) ?_
                          refine lv_lstore_n (lv' := [(1, .long (dgT (f i (3 * j)) (f i (3 * j + 1)) (f i (3 * j + 2)) (mix (dgTs (len i) (sz i) (f i) (dgCs len sz f nc ct cn (mix (dgB bf 401 4) (nI nC)) i) j) (nI (sz i j))) (k + 1))), (0, .ref mo), (3, .int (nI i)), (4, .int (nI (4 * i + j))), (5, .int (nI (16 * (4 * i + j) + k)))]) hx hb dX6_digest_181 rfl hl (by decide) rfl (fun ls hl => ?_)
                          refine lv_iinc (v := nI (16 * (4 * i + j) + k + 1)) (lv' := [(5, .int (nI (16 * (4 * i + j) + k + 1))), (1, .long (dgT (f i (3 * j)) (f i (3 * j + 1)) (f i (3 * j + 2)) (mix (dgTs (len i) (sz i) (f i) (dgCs len sz f nc ct cn (mix (dgB bf 401 4) (nI nC)) i) j) (nI (sz i j))) (k + 1))), (0, .ref mo), (3, .int (nI i)), (4, .int (nI (4 * i + j)))]) hx hb dX6_digest_182 hl (k := 4) rfl (nI_1 _) (by decide) rfl (fun ls hl => ?_)
                          refine lv_goto (tgt := 123) hx hb dX6_digest_185 (by decide) ?_
                          exact ih123 (k + 1) (by omega) (by omega) _ (lv_sub hl [2, 1, 3, 4, 0] rfl)
                    exact loop123 _ 0 (Nat.lt_succ_self _) (by omega) _ (lv_sub hl [2, 1, 3, 4, 0] rfl)
              exact loop91 _ 0 (Nat.lt_succ_self _) (by omega) _ (lv_sub hl [2, 1, 3, 0] rfl)
        exact loop64 _ 0 (Nat.lt_succ_self _) (by omega) _ (lv_sub hl [2, 1, 0] rfl)
      · skip
        have n25 := mt (nI_leI (a := 4) (b := i) (by omega) (by omega)).mpr c25
        refine lv_aload_n hx hb dX6_digest_28 rfl (lv_at hl 2 rfl) ?_
        refine lv_iload hx hb dX6_digest_29 (lv_at hl 4 rfl) ?_
        refine ild (n := 4) (j := i) hx hb hG hP 1 rfl (by omega) (by omega) dX6_digest_31 ?_
        refine tpi (y := bf i) (hbs i (by omega)) ?_
        refine lv_istore (lv' := [(6, .int (bf i)), (0, .ref mo), (1, .long (dgB bf 401 i)), (3, .ref a1), (4, .int (nI 4)), (5, .int (nI i))]) hx hb dX6_digest_32 hl (by decide) rfl (fun ls hl => ?_)
        refine lv_lload_n hx hb dX6_digest_34 rfl (lv_at hl 2 rfl) ?_
        refine lv_ldc2 hx hb hown (hts _ mH_X6_179) dX6_digest_35 ?_
        refine lv_lmul hx hb dX6_digest_38 ?_
        refine lv_iload hx hb dX6_digest_39 (lv_at hl 0 rfl) ?_
        refine lv_i2l hx hb dX6_digest_41 rfl ?_
        refine lv_ladd hx hb dX6_digest_42 ?_
        refine tpl (y := dgB bf 401 (i + 1)) (rfl) ?_
        refine lv_lstore_n (lv' := [(1, .long (dgB bf 401 (i + 1))), (6, .int (bf i)), (0, .ref mo), (3, .ref a1), (4, .int (nI 4)), (5, .int (nI i))]) hx hb dX6_digest_43 rfl hl (by decide) rfl (fun ls hl => ?_)
        refine lv_iinc (v := nI (i + 1)) (lv' := [(5, .int (nI (i + 1))), (1, .long (dgB bf 401 (i + 1))), (6, .int (bf i)), (0, .ref mo), (3, .ref a1), (4, .int (nI 4))]) hx hb dX6_digest_44 hl (k := 5) rfl (nI_1 _) (by decide) rfl (fun ls hl => ?_)
        refine lv_goto (tgt := 21) hx hb dX6_digest_47 (by decide) ?_
        exact ih21 (i + 1) (by omega) (by omega) _ (lv_sub hl [3, 1, 4, 5, 0] rfl)
  exact loop21 _ 0 (Nat.lt_succ_self _) (by omega) _ (lv_sub hl [4, 3, 2, 1, 0] rfl)
