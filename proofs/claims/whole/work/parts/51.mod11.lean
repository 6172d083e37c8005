/-- a row of n cells from b on is written anew -/
def rwF (f : Nat → Int32) (b n : Nat) (g : Nat → Int32) : Nat → Int32 := fun q => if b ≤ q ∧ q < b + n then g (q - b) else f q
theorem rwF_0 {f g : Nat → Int32} {b : Nat} : rwF f b 0 g = f := by
  funext q
  rw [rwF, if_neg (fun h => by omega)]
theorem rwF_step {f g : Nat → Int32} {b k : Nat} : upd (rwF f b k g) (b + k) (g k) = rwF f b (k + 1) g := by
  apply upd_eq
  · rw [rwF, if_pos ⟨by omega, by omega⟩, Nat.add_sub_cancel_left]
  · intro q hq
    rw [rwF, rwF]
    by_cases e : b ≤ q ∧ q < b + k
    · rw [if_pos e, if_pos ⟨e.1, by omega⟩]
    · rw [if_neg e, if_neg (fun z => e ⟨z.1, by omega⟩)]
/-- three facts in turn, of the first k keys -/
def owF (a b c : Nat → Int32) (k : Nat) : Nat → Int32 := fun q => if q < 3 * k then (if q % 3 = 0 then a (q / 3) else if q % 3 = 1 then b (q / 3) else c (q / 3)) else 0
theorem owF_0 {a b c : Nat → Int32} : owF a b c 0 = fun _ => 0 := by
  funext q
  rw [owF, if_neg (fun h => by omega)]
theorem owF_step {a b c : Nat → Int32} {k : Nat} {v : Int32} (h : v = c k) : upd (upd (upd (owF a b c k) (3 * k) (a k)) (3 * k + 1) (b k)) (3 * k + 2) v = owF a b c (k + 1) := by
  apply upd_eq
  · rw [owF, if_pos (by omega), if_neg (by omega), if_neg (by omega), show (3 * k + 2) / 3 = k by omega, h]
  · intro q h2
    simp only [upd]
    by_cases e1 : q = 3 * k + 1
    · rw [if_pos e1, e1, owF, if_pos (by omega), if_neg (by omega), if_pos (by omega), show (3 * k + 1) / 3 = k by omega]
    · rw [if_neg e1]
      by_cases e0 : q = 3 * k
      · rw [if_pos e0, e0, owF, if_pos (by omega), if_pos (by omega), show 3 * k / 3 = k by omega]
      · rw [if_neg e0, owF, owF]
        by_cases e : q < 3 * k
        · rw [if_pos e, if_pos (by omega)]
        · rw [if_neg e, if_neg (by omega)]
theorem owF_a {a b c : Nat → Int32} {n k : Nat} (h : k < n) : owF a b c n (3 * k) = a k := by
  rw [owF, if_pos (by omega), if_pos (by omega), show 3 * k / 3 = k by omega]
theorem owF_b {a b c : Nat → Int32} {n k : Nat} (h : k < n) : owF a b c n (3 * k + 1) = b k := by
  rw [owF, if_pos (by omega), if_neg (by omega), if_pos (by omega), show (3 * k + 1) / 3 = k by omega]
theorem owF_c {a b c : Nat → Int32} {n k : Nat} (h : k < n) : owF a b c n (3 * k + 2) = c k := by
  rw [owF, if_pos (by omega), if_neg (by omega), if_neg (by omega), show (3 * k + 2) / 3 = k by omega]
/-- two facts in turn -/
def owG (a b : Nat → Int32) (k : Nat) : Nat → Int32 := fun q => if q < 2 * k then (if q % 2 = 0 then a (q / 2) else b (q / 2)) else 0
theorem owG_0 {a b : Nat → Int32} : owG a b 0 = fun _ => 0 := by
  funext q
  rw [owG, if_neg (fun h => by omega)]
theorem owG_step {a b : Nat → Int32} {k : Nat} : upd (upd (owG a b k) (2 * k) (a k)) (2 * k + 1) (b k) = owG a b (k + 1) := by
  apply upd_eq
  · rw [owG, if_pos (by omega), if_neg (by omega), show (2 * k + 1) / 2 = k by omega]
  · intro q h2
    simp only [upd]
    by_cases e0 : q = 2 * k
    · rw [if_pos e0, e0, owG, if_pos (by omega), if_pos (by omega), show 2 * k / 2 = k by omega]
    · rw [if_neg e0, owG, owG]
      by_cases e : q < 2 * k
      · rw [if_pos e, if_pos (by omega)]
      · rw [if_neg e, if_neg (by omega)]
theorem owG_a {a b : Nat → Int32} {n k : Nat} (h : k < n) : owG a b n (2 * k) = a k := by
  rw [owG, if_pos (by omega), if_pos (by omega), show 2 * k / 2 = k by omega]
theorem owG_b {a b : Nat → Int32} {n k : Nat} (h : k < n) : owG a b n (2 * k + 1) = b k := by
  rw [owG, if_pos (by omega), if_neg (by omega), show (2 * k + 1) / 2 = k by omega]
def mirT (f : Nat → Int32) (x : Int32) (k0 n : Nat) : Nat → Int32 := rwF f (16 * k0) n (fun z => x - f (16 * k0 + n - 1 - z))
def mirW (f : Nat → Int32) (k0 n : Nat) : Nat → Int32 := rwF f (16 * k0) n (fun z => f (16 * k0 + n - 1 - z))
def mirA (f : Nat → Int32) (k0 n : Nat) : Nat → Int32 := rwF f (16 * k0) n (fun z => mirE (if z + 1 = n then 1 else f (16 * k0 + n - 1 - z - 1)))
set_option maxHeartbeats 400000 in
set_option maxRecDepth 100000 in
theorem m_mirrorTrack (l : Launch) (D : va_G) {mo a1 a2 a3 a4 a5 a6 a7 a8 a9 a10 a11 nC nS nM : Nat} {th : Int32} {ks tm wo ea : Nat → Int32} {k0 n : Nat} {x : Int32} (hz0 : Nat) (h24 : k0 < 24) (hks : ks k0 = nI n) (h16 : n ≤ 16) : Met l yX6_mirrorTrack (ws_ yX6_mirrorTrack cX6_mirrorTrack 8 none) ({ frames := 1, cells := 1, slots := 48, locals := 24 } : Room) (va_Pc [.ref mo, .int (nI k0), .int x] (SW D [oO mo 6 [.int th, .ref a1, .int (nI nC), .ref a2, .ref a3, .ref a4, .ref a5, .ref a6, .ref a7, .ref a8, .ref a9, .int (nI nS), .ref a10, .int (nI nM), .ref a11], aI D a3 24 ks, aI D a4 384 tm, aI D a5 384 wo, aI D a6 384 ea] hz0)) (va_Qv (fun _ => True) (AT D (va_A [oO mo 6 [.int th, .ref a1, .int (nI nC), .ref a2, .ref a3, .ref a4, .ref a5, .ref a6, .ref a7, .ref a8, .ref a9, .int (nI nS), .ref a10, .int (nI nM), .ref a11], aI D a3 24 ks, aI D a4 384 tm, aI D a5 384 wo, aI D a6 384 ea] hz0) (fun _ : Unit => [oO mo 6 [.int th, .ref a1, .int (nI nC), .ref a2, .ref a3, .ref a4, .ref a5, .ref a6, .ref a7, .ref a8, .ref a9, .int (nI nS), .ref a10, .int (nI nM), .ref a11], aI D a3 24 ks, aI D a4 384 (mirT tm x k0 n), aI D a5 384 (mirW wo k0 n), aI D a6 384 (mirA ea k0 n)])) (va_A [oO mo 6 [.int th, .ref a1, .int (nI nC), .ref a2, .ref a3, .ref a4, .ref a5, .ref a6, .ref a7, .ref a8, .ref a9, .int (nI nS), .ref a10, .int (nI nM), .ref a11], aI D a3 24 ks, aI D a4 384 tm, aI D a5 384 wo, aI D a6 384 ea] hz0)) 1 48 (va_A [oO mo 6 [.int th, .ref a1, .int (nI nC), .ref a2, .ref a3, .ref a4, .ref a5, .ref a6, .ref a7, .ref a8, .ref a9, .int (nI nS), .ref a10, .int (nI nM), .ref a11], aI D a3 24 ks, aI D a4 384 tm, aI D a5 384 wo, aI D a6 384 ea] hz0) := by
  refine Met.ofW (cc := cX6_mirrorTrack) (maxL := 8) (ret := none) (by decide) rfl ?_
  intro p e s m args below meth c s₁ B hml hv
  obtain ⟨rfl, hsz, hG, hP, hD0⟩ := hv
  have hx := B.exec
  have hb := B.bytes
  have hr := B.returns
  have hts : ∀ w ∈ wsL_law, w.before _ s = true := fun w h => atoms_spec (ws := (ws_ yX6_mirrorTrack cX6_mirrorTrack 8 none)) B.pre w (List.mem_cons_of_mem _ h)
  have hown : s.vm.findClass RX6 = some m.cls := findClass_of_methodNamed B.named
  have hlk := B.notSynchronized
  have hC : CallFix p m c cX6_mirrorTrack 8 s _ wsL_law RX6 := ⟨hx, hb, hml, hown, hts⟩
  subst hsz
  have hD := hD0.self (sz := s.heap.size)
  generalize hAe : va_A [oO mo 6 [.int th, .ref a1, .int (nI nC), .ref a2, .ref a3, .ref a4, .ref a5, .ref a6, .ref a7, .ref a8, .ref a9, .int (nI nS), .ref a10, .int (nI nM), .ref a11], aI D a3 24 ks, aI D a4 384 tm, aI D a5 384 wo, aI D a6 384 ea] s.heap.size = A at hD ⊢
  have hA : ∀ q : Nat, s.heap.size ≤ q → A q := fun q h => by rw [← hAe]; exact Or.inr h
  have hS : va_S A s.heap s.heap [] := va_S.rf
  obtain ⟨H, hHe⟩ : ∃ H, H = s.heap := ⟨_, rfl⟩
  rw [← hHe] at hP
  have hS : va_S A s.heap H [] := by rw [hHe]; exact hS
  have hl := lv_entry ([.ref mo, .int (nI k0), .int x]) (n := 8) (Nat.le_of_ble_eq_true rfl)
  rw [lg_entry_eq]
  generalize (lg_sl ([.ref mo, .int (nI k0), .int x]) ++ List.replicate (8 - (lg_sl ([.ref mo, .int (nI k0), .int x])).length) Slot.unset).toArray = ls at hl ⊢
  have hl : lv_has ls 8 [(0, .ref mo), (1, .int (nI k0)), (2, .int x)] := hl
  rw [← hHe]
  refine lv_aload_n hx hb dX6_mirrorTrack_0 rfl (lv_at hl 0 rfl) ?_
  refine va_get (D := D) (ci := 6) (v := .ref a3) (C := RX6) (T := TX6) (N := 15) hx hb hts inlX6 hown hG.K hP 0 rfl rfl 4 (by decide) (hts _ mF_X6_16) (fun _ h9 => h9) rfl dX6_mirrorTrack_1 ?_
  refine lv_iload_n hx hb dX6_mirrorTrack_4 rfl (lv_at hl 1 rfl) ?_
  refine ild (n := 24) (j := k0) hx hb hG hP 1 rfl (by omega) (by omega) dX6_mirrorTrack_5 ?_
  refine tpi (y := nI n) (hks) ?_
  refine lv_istore_n (lv' := [(3, .int (nI n)), (0, .ref mo), (1, .int (nI k0)), (2, .int x)]) hx hb dX6_mirrorTrack_6 rfl hl (by decide) rfl (fun ls hl => ?_)
  refine lv_bipush (v := 48) hx hb dX6_mirrorTrack_7 (by decide) ?_
  refine narI (N := 48) hx hb hG hts hP hD hS hA (by decide) (by decide) (by omega) (Nat.le_of_ble_eq_true rfl) (by first | exact Nat.le_of_ble_eq_true rfl | exact Nat.le_of_eq (Nat.zero_add _)) dX6_mirrorTrack_9 (fun ow H hP hD hS => ?_)
  have hP : va_P D cls [oO mo 6 [.int th, .ref a1, .int (nI nC), .ref a2, .ref a3, .ref a4, .ref a5, .ref a6, .ref a7, .ref a8, .ref a9, .int (nI nS), .ref a10, .int (nI nM), .ref a11], aI D a3 24 ks, aI D a4 384 tm, aI D a5 384 wo, aI D a6 384 ea, aI D ow 48 (fun _ => 0)] H := hP
  have hD : va_D A [oO mo 6 [.int th, .ref a1, .int (nI nC), .ref a2, .ref a3, .ref a4, .ref a5, .ref a6, .ref a7, .ref a8, .ref a9, .int (nI nS), .ref a10, .int (nI nM), .ref a11], aI D a3 24 ks, aI D a4 384 tm, aI D a5 384 wo, aI D a6 384 ea, aI D ow 48 (fun _ => 0)] := hD
  refine lv_astore (lv' := [(4, .ref ow), (3, .int (nI n)), (0, .ref mo), (1, .int (nI k0)), (2, .int x)]) hx hb dX6_mirrorTrack_11 hl (by decide) rfl (fun ls hl => ?_)
  refine lv_iconst (v := 0) hx hb dX6_mirrorTrack_13 (by decide) ?_
  refine lv_istore (lv' := [(5, .int 0), (4, .ref ow), (3, .int (nI n)), (0, .ref mo), (1, .int (nI k0)), (2, .int x)]) hx hb dX6_mirrorTrack_14 hl (by decide) rfl (fun ls hl => ?_)
  have loop16 : ∀ (d9 : Nat) (k : Nat), (n - k) < d9 → (k ≤ n) → ∀ (H : Heap) (locs : List Loc) (ls : Array Slot), va_P D cls [oO mo 6 [.int th, .ref a1, .int (nI nC), .ref a2, .ref a3, .ref a4, .ref a5, .ref a6, .ref a7, .ref a8, .ref a9, .int (nI nS), .ref a10, .int (nI nM), .ref a11], aI D a3 24 ks, aI D a4 384 tm, aI D a5 384 wo, aI D a6 384 ea, aI D ow 48 (owF (fun z => x - tm (16 * k0 + n - 1 - z)) (fun z => wo (16 * k0 + n - 1 - z)) (fun z => mirE (if z + 1 = n then 1 else ea (16 * k0 + n - 1 - z - 1))) k)] H → va_D A [oO mo 6 [.int th, .ref a1, .int (nI nC), .ref a2, .ref a3, .ref a4, .ref a5, .ref a6, .ref a7, .ref a8, .ref a9, .int (nI nS), .ref a10, .int (nI nM), .ref a11], aI D a3 24 ks, aI D a4 384 tm, aI D a5 384 wo, aI D a6 384 ea, aI D ow 48 (owF (fun z => x - tm (16 * k0 + n - 1 - z)) (fun z => wo (16 * k0 + n - 1 - z)) (fun z => mirE (if z + 1 = n then 1 else ea (16 * k0 + n - 1 - z - 1))) k)] → va_S A s.heap H locs → lv_has ls 8 [(0, .ref mo), (1, .int (nI k0)), (2, .int x), (3, .int (nI n)), (4, .ref ow), (5, .int (nI k))] → W p l e ({ frames := 1, cells := 1, slots := 48, locals := 24 } : Room) s m ([.ref mo, .int (nI k0), .int x] : List Value).toArray below meth c H locs 1 48 (MQ below (va_Qv (fun _ => True) (AT D A (fun _ : Unit => [oO mo 6 [.int th, .ref a1, .int (nI nC), .ref a2, .ref a3, .ref a4, .ref a5, .ref a6, .ref a7, .ref a8, .ref a9, .int (nI nS), .ref a10, .int (nI nM), .ref a11], aI D a3 24 ks, aI D a4 384 (mirT tm x k0 n), aI D a5 384 (mirW wo k0 n), aI D a6 384 (mirA ea k0 n)])) A) ([.ref mo, .int (nI k0), .int x] : List Value).toArray s 1 48 A) (F0 m 16 ls []) := by
    intro d9
    induction d9 with
    | zero => intro k hd; exact absurd hd (Nat.not_lt_zero _)
    | succ d9 ih16 =>
      intro k hd16 hk H locs ls hP hD hS hl
      refine lv_iload hx hb dX6_mirrorTrack_16 (lv_at hl 5 rfl) ?_
      refine lv_iload_n hx hb dX6_mirrorTrack_18 rfl (lv_at hl 3 rfl) ?_
      refine lv_icmp_ge (tgt := 127) hx hb dX6_mirrorTrack_19 (by decide) (fun c19 => ?_) (fun c19 => ?_)
      · skip
        have n19 := (nI_leI (a := n) (b := k) (by omega) (by omega)).mp c19
        have hk9 : k = n := by omega
        subst k
        refine lv_iconst (v := 0) hx hb dX6_mirrorTrack_127 (by decide) ?_
        refine lv_istore (lv' := [(5, .int 0), (0, .ref mo), (1, .int (nI k0)), (2, .int x), (3, .int (nI n)), (4, .ref ow)]) hx hb dX6_mirrorTrack_128 hl (by decide) rfl (fun ls hl => ?_)
        have loop130 : ∀ (d9 : Nat) (k : Nat), (n - k) < d9 → (k ≤ n) → ∀ (H : Heap) (locs : List Loc) (ls : Array Slot), va_P D cls [oO mo 6 [.int th, .ref a1, .int (nI nC), .ref a2, .ref a3, .ref a4, .ref a5, .ref a6, .ref a7, .ref a8, .ref a9, .int (nI nS), .ref a10, .int (nI nM), .ref a11], aI D a3 24 ks, aI D a4 384 (rwF tm (16 * k0) k (fun z => x - tm (16 * k0 + n - 1 - z))), aI D a5 384 (rwF wo (16 * k0) k (fun z => wo (16 * k0 + n - 1 - z))), aI D a6 384 (rwF ea (16 * k0) k (fun z => mirE (if z + 1 = n then 1 else ea (16 * k0 + n - 1 - z - 1)))), aI D ow 48 (owF (fun z => x - tm (16 * k0 + n - 1 - z)) (fun z => wo (16 * k0 + n - 1 - z)) (fun z => mirE (if z + 1 = n then 1 else ea (16 * k0 + n - 1 - z - 1))) n)] H → va_D A [oO mo 6 [.int th, .ref a1, .int (nI nC), .ref a2, .ref a3, .ref a4, .ref a5, .ref a6, .ref a7, .ref a8, .ref a9, .int (nI nS), .ref a10, .int (nI nM), .ref a11], aI D a3 24 ks, aI D a4 384 (rwF tm (16 * k0) k (fun z => x - tm (16 * k0 + n - 1 - z))), aI D a5 384 (rwF wo (16 * k0) k (fun z => wo (16 * k0 + n - 1 - z))), aI D a6 384 (rwF ea (16 * k0) k (fun z => mirE (if z + 1 = n then 1 else ea (16 * k0 + n - 1 - z - 1)))), aI D ow 48 (owF (fun z => x - tm (16 * k0 + n - 1 - z)) (fun z => wo (16 * k0 + n - 1 - z)) (fun z => mirE (if z + 1 = n then 1 else ea (16 * k0 + n - 1 - z - 1))) n)] → va_S A s.heap H locs → lv_has ls 8 [(0, .ref mo), (1, .int (nI k0)), (2, .int x), (3, .int (nI n)), (4, .ref ow), (5, .int (nI k))] → W p l e ({ frames := 1, cells := 1, slots := 48, locals := 24 } : Room) s m ([.ref mo, .int (nI k0), .int x] : List Value).toArray below meth c H locs 1 48 (MQ below (va_Qv (fun _ => True) (AT D A (fun _ : Unit => [oO mo 6 [.int th, .ref a1, .int (nI nC), .ref a2, .ref a3, .ref a4, .ref a5, .ref a6, .ref a7, .ref a8, .ref a9, .int (nI nS), .ref a10, .int (nI nM), .ref a11], aI D a3 24 ks, aI D a4 384 (mirT tm x k0 n), aI D a5 384 (mirW wo k0 n), aI D a6 384 (mirA ea k0 n)])) A) ([.ref mo, .int (nI k0), .int x] : List Value).toArray s 1 48 A) (F0 m 130 ls []) := by
          intro d9
          induction d9 with
          | zero => intro k hd; exact absurd hd (Nat.not_lt_zero _)
          | succ d9 ih130 =>
            intro k hd130 hk H locs ls hP hD hS hl
            refine lv_iload hx hb dX6_mirrorTrack_130 (lv_at hl 5 rfl) ?_
            refine lv_iload_n hx hb dX6_mirrorTrack_132 rfl (lv_at hl 3 rfl) ?_
            refine lv_icmp_ge (tgt := 178) hx hb dX6_mirrorTrack_133 (by decide) (fun c133 => ?_) (fun c133 => ?_)
            · skip
              have n133 := (nI_leI (a := n) (b := k) (by omega) (by omega)).mp c133
              have hk9 : k = n := by omega
              subst k
              refine Wv () hx hb hr hlk ?_ (hP.sub [0, 1, 2, 3, 4] rfl) (hD.sub [0, 1, 2, 3, 4] (by decide) rfl) hS (Nat.le_of_ble_eq_true rfl) (by first | exact Nat.le_of_ble_eq_true rfl | exact Nat.le_of_eq (Nat.zero_add _)) dX6_mirrorTrack_178
              exact trivial
            · skip
              have n133 := mt (nI_leI (a := n) (b := k) (by omega) (by omega)).mpr c133
              refine lv_aload_n hx hb dX6_mirrorTrack_136 rfl (lv_at hl 0 rfl) ?_
              refine lv_iload_n hx hb dX6_mirrorTrack_137 rfl (lv_at hl 1 rfl) ?_
              have hP9 : va_P D cls [] H := fun k q h => by simp at h
              refine vp_callSi (pS (rest := [.ref mo]) [.int (nI k0)] 1 hC (m_row l D (j := k0) ) (gS mM_X6_78 mT_X6_row mN_X6 mC_X6_row) (by decide +kernel) rfl rfl ⟨Nat.le_of_ble_eq_true rfl, Nat.le_of_ble_eq_true rfl⟩ hG hP9 rfl hl.1 rfl (Nat.le_of_ble_eq_true rfl) dX6_mirrorTrack_138 ⟨Nat.le_of_ble_eq_true rfl, Nat.le_of_ble_eq_true rfl⟩) (fun r138 h138 => ?_)
              obtain rfl : r138 = (nI (16 * k0)) := h138
              refine lv_iload hx hb dX6_mirrorTrack_141 (lv_at hl 5 rfl) ?_
              refine lv_iadd hx hb dX6_mirrorTrack_143 ?_
              refine tpi (y := nI ((16 * k0) + k)) (nI_add (16 * k0) k) ?_
              refine lv_aload hx hb dX6_mirrorTrack_144 (lv_at hl 4 rfl) ?_
              refine lv_iconst (v := 3) hx hb dX6_mirrorTrack_146 (by decide) ?_
              refine lv_iload hx hb dX6_mirrorTrack_147 (lv_at hl 5 rfl) ?_
              refine lv_imul hx hb dX6_mirrorTrack_149 ?_
              refine tpi (y := nI (3 * k)) (pk_mul 3 k) ?_
              refine ild (n := 48) (j := 3 * k) hx hb hG hP 5 rfl (by omega) (by omega) dX6_mirrorTrack_150 ?_
              refine tpi (y := x - tm (16 * k0 + n - 1 - k)) (owF_a (by omega)) ?_
              refine lv_aload hx hb dX6_mirrorTrack_151 (lv_at hl 4 rfl) ?_
              refine lv_iconst (v := 3) hx hb dX6_mirrorTrack_153 (by decide) ?_
              refine lv_iload hx hb dX6_mirrorTrack_154 (lv_at hl 5 rfl) ?_
              refine lv_imul hx hb dX6_mirrorTrack_156 ?_
              refine tpi (y := nI (3 * k)) (pk_mul 3 k) ?_
              refine lv_iconst (v := 1) hx hb dX6_mirrorTrack_157 (by decide) ?_
              refine lv_iadd hx hb dX6_mirrorTrack_158 ?_
              refine tpi (y := nI ((3 * k) + 1)) (nI_add (3 * k) 1) ?_
              refine ild (n := 48) (j := (3 * k) + 1) hx hb hG hP 5 rfl (by omega) (by omega) dX6_mirrorTrack_159 ?_
              refine tpi (y := wo (16 * k0 + n - 1 - k)) (owF_b (by omega)) ?_
              refine lv_aload hx hb dX6_mirrorTrack_160 (lv_at hl 4 rfl) ?_
              refine lv_iconst (v := 3) hx hb dX6_mirrorTrack_162 (by decide) ?_
              refine lv_iload hx hb dX6_mirrorTrack_163 (lv_at hl 5 rfl) ?_
              refine lv_imul hx hb dX6_mirrorTrack_165 ?_
              refine tpi (y := nI (3 * k)) (pk_mul 3 k) ?_
              refine lv_iconst (v := 2) hx hb dX6_mirrorTrack_166 (by decide) ?_
              refine lv_iadd hx hb dX6_mirrorTrack_167 ?_
              refine tpi (y := nI ((3 * k) + 2)) (nI_add (3 * k) 2) ?_
              refine ild (n := 48) (j := (3 * k) + 2) hx hb hG hP 5 rfl (by omega) (by omega) dX6_mirrorTrack_168 ?_
              refine tpi (y := mirE (if k + 1 = n then 1 else ea (16 * k0 + n - 1 - k - 1))) (owF_c (by omega)) ?_
              have hP9 := hP.sub (ws' := [oO mo 6 [.int th, .ref a1, .int (nI nC), .ref a2, .ref a3, .ref a4, .ref a5, .ref a6, .ref a7, .ref a8, .ref a9, .int (nI nS), .ref a10, .int (nI nM), .ref a11], aI D a4 384 (rwF tm (16 * k0) k (fun z => x - tm (16 * k0 + n - 1 - z))), aI D a5 384 (rwF wo (16 * k0) k (fun z => wo (16 * k0 + n - 1 - z))), aI D a6 384 (rwF ea (16 * k0) k (fun z => mirE (if z + 1 = n then 1 else ea (16 * k0 + n - 1 - z - 1))))]) [0, 2, 3, 4] rfl
              have hD9 := (hD.sub (ws' := [oO mo 6 [.int th, .ref a1, .int (nI nC), .ref a2, .ref a3, .ref a4, .ref a5, .ref a6, .ref a7, .ref a8, .ref a9, .int (nI nS), .ref a10, .int (nI nM), .ref a11], aI D a4 384 (rwF tm (16 * k0) k (fun z => x - tm (16 * k0 + n - 1 - z))), aI D a5 384 (rwF wo (16 * k0) k (fun z => wo (16 * k0 + n - 1 - z))), aI D a6 384 (rwF ea (16 * k0) k (fun z => mirE (if z + 1 = n then 1 else ea (16 * k0 + n - 1 - z - 1))))]) [0, 2, 3, 4] (by decide) rfl).weaken (B := fun _ => True) (fun _ _ _ _ => trivial)
              refine kv (wr := [aI D a3 24 ks, aI D ow 48 (owF (fun z => x - tm (16 * k0 + n - 1 - z)) (fun z => wo (16 * k0 + n - 1 - z)) (fun z => mirE (if z + 1 = n then 1 else ea (16 * k0 + n - 1 - z - 1))) n)]) (rV (rest := []) (qc := (RX6, TX6, 15)) [.int (nI ((16 * k0) + k)), .int (x - tm (16 * k0 + n - 1 - k)), .int (wo (16 * k0 + n - 1 - k)), .int (mirE (if k + 1 = n then 1 else ea (16 * k0 + n - 1 - k - 1)))] 4 0 0 hC (m_put l D (mo := mo) (k := (16 * k0) + k) (x := x - tm (16 * k0 + n - 1 - k)) (y := wo (16 * k0 + n - 1 - k)) (z := mirE (if k + 1 = n then 1 else ea (16 * k0 + n - 1 - k - 1))) (th := th) (a1 := a1) (nC := nC) (a2 := a2) (a3 := a3) (a4 := a4) (a5 := a5) (a6 := a6) (a7 := a7) (a8 := a8) (a9 := a9) (nS := nS) (a10 := a10) (nM := nM) (a11 := a11) (tm := rwF tm (16 * k0) k (fun z => x - tm (16 * k0 + n - 1 - z))) (wo := rwF wo (16 * k0) k (fun z => wo (16 * k0 + n - 1 - z))) (ea := rwF ea (16 * k0) k (fun z => mirE (if z + 1 = n then 1 else ea (16 * k0 + n - 1 - z - 1)))) (hz0 := H.size) (by omega)) rfl (hP 0 _ rfl) (gV mM_X6_81 mI_X6_put mS_X6_put mN_X6 mC_X6_put) (by decide +kernel) rfl rfl ⟨Nat.le_of_ble_eq_true rfl, Nat.le_of_ble_eq_true rfl⟩ hG hP9 hD9 rfl hl.1 rfl (Nat.le_of_ble_eq_true rfl) dX6_mirrorTrack_169 ⟨Nat.le_of_ble_eq_true rfl, Nat.le_of_ble_eq_true rfl⟩) hP hD hS hA [0, 2, 3, 4] [1, 5] rfl rfl (by decide) (by decide) (fun u169 H locs h169 hP hD hS hz hfr => ?_)
              have hP : va_P D cls [aI D a3 24 ks, aI D ow 48 (owF (fun z => x - tm (16 * k0 + n - 1 - z)) (fun z => wo (16 * k0 + n - 1 - z)) (fun z => mirE (if z + 1 = n then 1 else ea (16 * k0 + n - 1 - z - 1))) n), oO mo 6 [.int th, .ref a1, .int (nI nC), .ref a2, .ref a3, .ref a4, .ref a5, .ref a6, .ref a7, .ref a8, .ref a9, .int (nI nS), .ref a10, .int (nI nM), .ref a11], aI D a4 384 (upd (rwF tm (16 * k0) k (fun z => x - tm (16 * k0 + n - 1 - z))) ((16 * k0) + k) (x - tm (16 * k0 + n - 1 - k))), aI D a5 384 (upd (rwF wo (16 * k0) k (fun z => wo (16 * k0 + n - 1 - z))) ((16 * k0) + k) (wo (16 * k0 + n - 1 - k))), aI D a6 384 (upd (rwF ea (16 * k0) k (fun z => mirE (if z + 1 = n then 1 else ea (16 * k0 + n - 1 - z - 1)))) ((16 * k0) + k) (mirE (if k + 1 = n then 1 else ea (16 * k0 + n - 1 - k - 1))))] H := hP
              have hD : va_D A [aI D a3 24 ks, aI D ow 48 (owF (fun z => x - tm (16 * k0 + n - 1 - z)) (fun z => wo (16 * k0 + n - 1 - z)) (fun z => mirE (if z + 1 = n then 1 else ea (16 * k0 + n - 1 - z - 1))) n), oO mo 6 [.int th, .ref a1, .int (nI nC), .ref a2, .ref a3, .ref a4, .ref a5, .ref a6, .ref a7, .ref a8, .ref a9, .int (nI nS), .ref a10, .int (nI nM), .ref a11], aI D a4 384 (upd (rwF tm (16 * k0) k (fun z => x - tm (16 * k0 + n - 1 - z))) ((16 * k0) + k) (x - tm (16 * k0 + n - 1 - k))), aI D a5 384 (upd (rwF wo (16 * k0) k (fun z => wo (16 * k0 + n - 1 - z))) ((16 * k0) + k) (wo (16 * k0 + n - 1 - k))), aI D a6 384 (upd (rwF ea (16 * k0) k (fun z => mirE (if z + 1 = n then 1 else ea (16 * k0 + n - 1 - z - 1)))) ((16 * k0) + k) (mirE (if k + 1 = n then 1 else ea (16 * k0 + n - 1 - k - 1))))] := hD
              have hcv1 : (rwF tm (16 * k0) (k + 1) (fun z => x - tm (16 * k0 + n - 1 - z))) = (upd (rwF tm (16 * k0) k (fun z => x - tm (16 * k0 + n - 1 - z))) ((16 * k0) + k) (x - tm (16 * k0 + n - 1 - k))) := (rwF_step (f := tm) (g := (fun z => x - tm (16 * k0 + n - 1 - z)))).symm
              have hP := Eq.mpr (congrArg (fun z9 => va_P D cls [aI D a3 24 ks, aI D ow 48 (owF (fun z => x - tm (16 * k0 + n - 1 - z)) (fun z => wo (16 * k0 + n - 1 - z)) (fun z => mirE (if z + 1 = n then 1 else ea (16 * k0 + n - 1 - z - 1))) n), oO mo 6 [.int th, .ref a1, .int (nI nC), .ref a2, .ref a3, .ref a4, .ref a5, .ref a6, .ref a7, .ref a8, .ref a9, .int (nI nS), .ref a10, .int (nI nM), .ref a11], aI D a4 384 z9, aI D a5 384 (upd (rwF wo (16 * k0) k (fun z => wo (16 * k0 + n - 1 - z))) ((16 * k0) + k) (wo (16 * k0 + n - 1 - k))), aI D a6 384 (upd (rwF ea (16 * k0) k (fun z => mirE (if z + 1 = n then 1 else ea (16 * k0 + n - 1 - z - 1)))) ((16 * k0) + k) (mirE (if k + 1 = n then 1 else ea (16 * k0 + n - 1 - k - 1))))] H) hcv1) hP
              have hD := Eq.mpr (congrArg (fun z9 => va_D A [aI D a3 24 ks, aI D ow 48 (owF (fun z => x - tm (16 * k0 + n - 1 - z)) (fun z => wo (16 * k0 + n - 1 - z)) (fun z => mirE (if z + 1 = n then 1 else ea (16 * k0 + n - 1 - z - 1))) n), oO mo 6 [.int th, .ref a1, .int (nI nC), .ref a2, .ref a3, .ref a4, .ref a5, .ref a6, .ref a7, .ref a8, .ref a9, .int (nI nS), .ref a10, .int (nI nM), .ref a11], aI D a4 384 z9, aI D a5 384 (upd (rwF wo (16 * k0) k (fun z => wo (16 * k0 + n - 1 - z))) ((16 * k0) + k) (wo (16 * k0 + n - 1 - k))), aI D a6 384 (upd (rwF ea (16 * k0) k (fun z => mirE (if z + 1 = n then 1 else ea (16 * k0 + n - 1 - z - 1)))) ((16 * k0) + k) (mirE (if k + 1 = n then 1 else ea (16 * k0 + n - 1 - k - 1))))]) hcv1) hD
              have hP : va_P D cls [aI D a3 24 ks, aI D ow 48 (owF (fun z => x - tm (16 * k0 + n - 1 - z)) (fun z => wo (16 * k0 + n - 1 - z)) (fun z => mirE (if z + 1 = n then 1 else ea (16 * k0 + n - 1 - z - 1))) n), oO mo 6 [.int th, .ref a1, .int (nI nC), .ref a2, .ref a3, .ref a4, .ref a5, .ref a6, .ref a7, .ref a8, .ref a9, .int (nI nS), .ref a10, .int (nI nM), .ref a11], aI D a4 384 (rwF tm (16 * k0) (k + 1) (fun z => x - tm (16 * k0 + n - 1 - z))), aI D a5 384 (upd (rwF wo (16 * k0) k (fun z => wo (16 * k0 + n - 1 - z))) ((16 * k0) + k) (wo (16 * k0 + n - 1 - k))), aI D a6 384 (upd (rwF ea (16 * k0) k (fun z => mirE (if z + 1 = n then 1 else ea (16 * k0 + n - 1 - z - 1)))) ((16 * k0) + k) (mirE (if k + 1 = n then 1 else ea (16 * k0 + n - 1 - k - 1))))] H := hP
              have hD : va_D A [aI D a3 24 ks, aI D ow 48 (owF (fun z => x - tm (16 * k0 + n - 1 - z)) (fun z => wo (16 * k0 + n - 1 - z)) (fun z => mirE (if z + 1 = n then 1 else ea (16 * k0 + n - 1 - z - 1))) n), oO mo 6 [.int th, .ref a1, .int (nI nC), .ref a2, .ref a3, .ref a4, .ref a5, .ref a6, .ref a7, .ref a8, .ref a9, .int (nI nS), .ref a10, .int (nI nM), .ref a11], aI D a4 384 (rwF tm (16 * k0) (k + 1) (fun z => x - tm (16 * k0 + n - 1 - z))), aI D a5 384 (upd (rwF wo (16 * k0) k (fun z => wo (16 * k0 + n - 1 - z))) ((16 * k0) + k) (wo (16 * k0 + n - 1 - k))), aI D a6 384 (upd (rwF ea (16 * k0) k (fun z => mirE (if z + 1 = n then 1 else ea (16 * k0 + n - 1 - z - 1)))) ((16 * k0) + k) (mirE (if k + 1 = n then 1 else ea (16 * k0 + n - 1 - k - 1))))] := hD
              have hcv2 : (rwF wo (16 * k0) (k + 1) (fun z => wo (16 * k0 + n - 1 - z))) = (upd (rwF wo (16 * k0) k (fun z => wo (16 * k0 + n - 1 - z))) ((16 * k0) + k) (wo (16 * k0 + n - 1 - k))) := (rwF_step (f := wo) (g := (fun z => wo (16 * k0 + n - 1 - z)))).symm
              have hP := Eq.mpr (congrArg (fun z9 => va_P D cls [aI D a3 24 ks, aI D ow 48 (owF (fun z => x - tm (16 * k0 + n - 1 - z)) (fun z => wo (16 * k0 + n - 1 - z)) (fun z => mirE (if z + 1 = n then 1 else ea (16 * k0 + n - 1 - z - 1))) n), oO mo 6 [.int th, .ref a1, .int (nI nC), .ref a2, .ref a3, .ref a4, .ref a5, .ref a6, .ref a7, .ref a8, .ref a9, .int (nI nS), .ref a10, .int (nI nM), .ref a11], aI D a4 384 (rwF tm (16 * k0) (k + 1) (fun z => x - tm (16 * k0 + n - 1 - z))), aI D a5 384 z9, aI D a6 384 (upd (rwF ea (16 * k0) k (fun z => mirE (if z + 1 = n then 1 else ea (16 * k0 + n - 1 - z - 1)))) ((16 * k0) + k) (mirE (if k + 1 = n then 1 else ea (16 * k0 + n - 1 - k - 1))))] H) hcv2) hP
              have hD := Eq.mpr (congrArg (fun z9 => va_D A [aI D a3 24 ks, aI D ow 48 (owF (fun z => x - tm (16 * k0 + n - 1 - z)) (fun z => wo (16 * k0 + n - 1 - z)) (fun z => mirE (if z + 1 = n then 1 else ea (16 * k0 + n - 1 - z - 1))) n), oO mo 6 [.int th, .ref a1, .int (nI nC), .ref a2, .ref a3, .ref a4, .ref a5, .ref a6, .ref a7, .ref a8, .ref a9, .int (nI nS), .ref a10, .int (nI nM), .ref a11], aI D a4 384 (rwF tm (16 * k0) (k + 1) (fun z => x - tm (16 * k0 + n - 1 - z))), aI D a5 384 z9, aI D a6 384 (upd (rwF ea (16 * k0) k (fun z => mirE (if z + 1 = n then 1 else ea (16 * k0 + n - 1 - z - 1)))) ((16 * k0) + k) (mirE (if k + 1 = n then 1 else ea (16 * k0 + n - 1 - k - 1))))]) hcv2) hD
              have hP : va_P D cls [aI D a3 24 ks, aI D ow 48 (owF (fun z => x - tm (16 * k0 + n - 1 - z)) (fun z => wo (16 * k0 + n - 1 - z)) (fun z => mirE (if z + 1 = n then 1 else ea (16 * k0 + n - 1 - z - 1))) n), oO mo 6 [.int th, .ref a1, .int (nI nC), .ref a2, .ref a3, .ref a4, .ref a5, .ref a6, .ref a7, .ref a8, .ref a9, .int (nI nS), .ref a10, .int (nI nM), .ref a11], aI D a4 384 (rwF tm (16 * k0) (k + 1) (fun z => x - tm (16 * k0 + n - 1 - z))), aI D a5 384 (rwF wo (16 * k0) (k + 1) (fun z => wo (16 * k0 + n - 1 - z))), aI D a6 384 (upd (rwF ea (16 * k0) k (fun z => mirE (if z + 1 = n then 1 else ea (16 * k0 + n - 1 - z - 1)))) ((16 * k0) + k) (mirE (if k + 1 = n then 1 else ea (16 * k0 + n - 1 - k - 1))))] H := hP
              have hD : va_D A [aI D a3 24 ks, aI D ow 48 (owF (fun z => x - tm (16 * k0 + n - 1 - z)) (fun z => wo (16 * k0 + n - 1 - z)) (fun z => mirE (if z + 1 = n then 1 else ea (16 * k0 + n - 1 - z - 1))) n), oO mo 6 [.int th, .ref a1, .int (nI nC), .ref a2, .ref a3, .ref a4, .ref a5, .ref a6, .ref a7, .ref a8, .ref a9, .int (nI nS), .ref a10, .int (nI nM), .ref a11], aI D a4 384 (rwF tm (16 * k0) (k + 1) (fun z => x - tm (16 * k0 + n - 1 - z))), aI D a5 384 (rwF wo (16 * k0) (k + 1) (fun z => wo (16 * k0 + n - 1 - z))), aI D a6 384 (upd (rwF ea (16 * k0) k (fun z => mirE (if z + 1 = n then 1 else ea (16 * k0 + n - 1 - z - 1)))) ((16 * k0) + k) (mirE (if k + 1 = n then 1 else ea (16 * k0 + n - 1 - k - 1))))] := hD
              have hcv3 : (rwF ea (16 * k0) (k + 1) (fun z => mirE (if z + 1 = n then 1 else ea (16 * k0 + n - 1 - z - 1)))) = (upd (rwF ea (16 * k0) k (fun z => mirE (if z + 1 = n then 1 else ea (16 * k0 + n - 1 - z - 1)))) ((16 * k0) + k) (mirE (if k + 1 = n then 1 else ea (16 * k0 + n - 1 - k - 1)))) := (rwF_step (f := ea) (g := (fun z => mirE (if z + 1 = n then 1 else ea (16 * k0 + n - 1 - z - 1))))).symm
              have hP := Eq.mpr (congrArg (fun z9 => va_P D cls [aI D a3 24 ks, aI D ow 48 (owF (fun z => x - tm (16 * k0 + n - 1 - z)) (fun z => wo (16 * k0 + n - 1 - z)) (fun z => mirE (if z + 1 = n then 1 else ea (16 * k0 + n - 1 - z - 1))) n), oO mo 6 [.int th, .ref a1, .int (nI nC), .ref a2, .ref a3, .ref a4, .ref a5, .ref a6, .ref a7, .ref a8, .ref a9, .int (nI nS), .ref a10, .int (nI nM), .ref a11], aI D a4 384 (rwF tm (16 * k0) (k + 1) (fun z => x - tm (16 * k0 + n - 1 - z))), aI D a5 384 (rwF wo (16 * k0) (k + 1) (fun z => wo (16 * k0 + n - 1 - z))), aI D a6 384 z9] H) hcv3) hP
              have hD := Eq.mpr (congrArg (fun z9 => va_D A [aI D a3 24 ks, aI D ow 48 (owF (fun z => x - tm (16 * k0 + n - 1 - z)) (fun z => wo (16 * k0 + n - 1 - z)) (fun z => mirE (if z + 1 = n then 1 else ea (16 * k0 + n - 1 - z - 1))) n), oO mo 6 [.int th, .ref a1, .int (nI nC), .ref a2, .ref a3, .ref a4, .ref a5, .ref a6, .ref a7, .ref a8, .ref a9, .int (nI nS), .ref a10, .int (nI nM), .ref a11], aI D a4 384 (rwF tm (16 * k0) (k + 1) (fun z => x - tm (16 * k0 + n - 1 - z))), aI D a5 384 (rwF wo (16 * k0) (k + 1) (fun z => wo (16 * k0 + n - 1 - z))), aI D a6 384 z9]) hcv3) hD
              have hP : va_P D cls [aI D a3 24 ks, aI D ow 48 (owF (fun z => x - tm (16 * k0 + n - 1 - z)) (fun z => wo (16 * k0 + n - 1 - z)) (fun z => mirE (if z + 1 = n then 1 else ea (16 * k0 + n - 1 - z - 1))) n), oO mo 6 [.int th, .ref a1, .int (nI nC), .ref a2, .ref a3, .ref a4, .ref a5, .ref a6, .ref a7, .ref a8, .ref a9, .int (nI nS), .ref a10, .int (nI nM), .ref a11], aI D a4 384 (rwF tm (16 * k0) (k + 1) (fun z => x - tm (16 * k0 + n - 1 - z))), aI D a5 384 (rwF wo (16 * k0) (k + 1) (fun z => wo (16 * k0 + n - 1 - z))), aI D a6 384 (rwF ea (16 * k0) (k + 1) (fun z => mirE (if z + 1 = n then 1 else ea (16 * k0 + n - 1 - z - 1))))] H := hP
              have hD : va_D A [aI D a3 24 ks, aI D ow 48 (owF (fun z => x - tm (16 * k0 + n - 1 - z)) (fun z => wo (16 * k0 + n - 1 - z)) (fun z => mirE (if z + 1 = n then 1 else ea (16 * k0 + n - 1 - z - 1))) n), oO mo 6 [.int th, .ref a1, .int (nI nC), .ref a2, .ref a3, .ref a4, .ref a5, .ref a6, .ref a7, .ref a8, .ref a9, .int (nI nS), .ref a10, .int (nI nM), .ref a11], aI D a4 384 (rwF tm (16 * k0) (k + 1) (fun z => x - tm (16 * k0 + n - 1 - z))), aI D a5 384 (rwF wo (16 * k0) (k + 1) (fun z => wo (16 * k0 + n - 1 - z))), aI D a6 384 (rwF ea (16 * k0) (k + 1) (fun z => mirE (if z + 1 = n then 1 else ea (16 * k0 + n - 1 - z - 1))))] := hD
              refine lv_iinc (v := nI (k + 1)) (lv' := [(5, .int (nI (k + 1))), (0, .ref mo), (1, .int (nI k0)), (2, .int x), (3, .int (nI n)), (4, .ref ow)]) hx hb dX6_mirrorTrack_172 hl (k := 5) rfl (nI_1 _) (by decide) rfl (fun ls hl => ?_)
              refine lv_goto (tgt := 130) hx hb dX6_mirrorTrack_175 (by decide) ?_
              exact ih130 (k + 1) (by omega) (by omega) _ _ _ (hP.sub [2, 0, 3, 4, 5, 1] rfl) (hD.sub [2, 0, 3, 4, 5, 1] (by decide) rfl) hS (lv_sub hl [1, 2, 3, 4, 5, 0] rfl)
        have hcv4 : (rwF tm (16 * k0) 0 (fun z => x - tm (16 * k0 + n - 1 - z))) = tm := rwF_0
        have hP := Eq.mpr (congrArg (fun z9 => va_P D cls [oO mo 6 [.int th, .ref a1, .int (nI nC), .ref a2, .ref a3, .ref a4, .ref a5, .ref a6, .ref a7, .ref a8, .ref a9, .int (nI nS), .ref a10, .int (nI nM), .ref a11], aI D a3 24 ks, aI D a4 384 z9, aI D a5 384 wo, aI D a6 384 ea, aI D ow 48 (owF (fun z => x - tm (16 * k0 + n - 1 - z)) (fun z => wo (16 * k0 + n - 1 - z)) (fun z => mirE (if z + 1 = n then 1 else ea (16 * k0 + n - 1 - z - 1))) n)] H) hcv4) hP
        have hD := Eq.mpr (congrArg (fun z9 => va_D A [oO mo 6 [.int th, .ref a1, .int (nI nC), .ref a2, .ref a3, .ref a4, .ref a5, .ref a6, .ref a7, .ref a8, .ref a9, .int (nI nS), .ref a10, .int (nI nM), .ref a11], aI D a3 24 ks, aI D a4 384 z9, aI D a5 384 wo, aI D a6 384 ea, aI D ow 48 (owF (fun z => x - tm (16 * k0 + n - 1 - z)) (fun z => wo (16 * k0 + n - 1 - z)) (fun z => mirE (if z + 1 = n then 1 else ea (16 * k0 + n - 1 - z - 1))) n)]) hcv4) hD
        have hP : va_P D cls [oO mo 6 [.int th, .ref a1, .int (nI nC), .ref a2, .ref a3, .ref a4, .ref a5, .ref a6, .ref a7, .ref a8, .ref a9, .int (nI nS), .ref a10, .int (nI nM), .ref a11], aI D a3 24 ks, aI D a4 384 (rwF tm (16 * k0) 0 (fun z => x - tm (16 * k0 + n - 1 - z))), aI D a5 384 wo, aI D a6 384 ea, aI D ow 48 (owF (fun z => x - tm (16 * k0 + n - 1 - z)) (fun z => wo (16 * k0 + n - 1 - z)) (fun z => mirE (if z + 1 = n then 1 else ea (16 * k0 + n - 1 - z - 1))) n)] H := hP
        have hD : va_D A [oO mo 6 [.int th, .ref a1, .int (nI nC), .ref a2, .ref a3, .ref a4, .ref a5, .ref a6, .ref a7, .ref a8, .ref a9, .int (nI nS), .ref a10, .int (nI nM), .ref a11], aI D a3 24 ks, aI D a4 384 (rwF tm (16 * k0) 0 (fun z => x - tm (16 * k0 + n - 1 - z))), aI D a5 384 wo, aI D a6 384 ea, aI D ow 48 (owF (fun z => x - tm (16 * k0 + n - 1 - z)) (fun z => wo (16 * k0 + n - 1 - z)) (fun z => mirE (if z + 1 = n then 1 else ea (16 * k0 + n - 1 - z - 1))) n)] := hD
        have hcv5 : (rwF wo (16 * k0) 0 (fun z => wo (16 * k0 + n - 1 - z))) = wo := rwF_0
        have hP := Eq.mpr (congrArg (fun z9 => va_P D cls [oO mo 6 [.int th, .ref a1, .int (nI nC), .ref a2, .ref a3, .ref a4, .ref a5, .ref a6, .ref a7, .ref a8, .ref a9, .int (nI nS), .ref a10, .int (nI nM), .ref a11], aI D a3 24 ks, aI D a4 384 (rwF tm (16 * k0) 0 (fun z => x - tm (16 * k0 + n - 1 - z))), aI D a5 384 z9, aI D a6 384 ea, aI D ow 48 (owF (fun z => x - tm (16 * k0 + n - 1 - z)) (fun z => wo (16 * k0 + n - 1 - z)) (fun z => mirE (if z + 1 = n then 1 else ea (16 * k0 + n - 1 - z - 1))) n)] H) hcv5) hP
        have hD := Eq.mpr (congrArg (fun z9 => va_D A [oO mo 6 [.int th, .ref a1, .int (nI nC), .ref a2, .ref a3, .ref a4, .ref a5, .ref a6, .ref a7, .ref a8, .ref a9, .int (nI nS), .ref a10, .int (nI nM), .ref a11], aI D a3 24 ks, aI D a4 384 (rwF tm (16 * k0) 0 (fun z => x - tm (16 * k0 + n - 1 - z))), aI D a5 384 z9, aI D a6 384 ea, aI D ow 48 (owF (fun z => x - tm (16 * k0 + n - 1 - z)) (fun z => wo (16 * k0 + n - 1 - z)) (fun z => mirE (if z + 1 = n then 1 else ea (16 * k0 + n - 1 - z - 1))) n)]) hcv5) hD
        have hP : va_P D cls [oO mo 6 [.int th, .ref a1, .int (nI nC), .ref a2, .ref a3, .ref a4, .ref a5, .ref a6, .ref a7, .ref a8, .ref a9, .int (nI nS), .ref a10, .int (nI nM), .ref a11], aI D a3 24 ks, aI D a4 384 (rwF tm (16 * k0) 0 (fun z => x - tm (16 * k0 + n - 1 - z))), aI D a5 384 (rwF wo (16 * k0) 0 (fun z => wo (16 * k0 + n - 1 - z))), aI D a6 384 ea, aI D ow 48 (owF (fun z => x - tm (16 * k0 + n - 1 - z)) (fun z => wo (16 * k0 + n - 1 - z)) (fun z => mirE (if z + 1 = n then 1 else ea (16 * k0 + n - 1 - z - 1))) n)] H := hP
        have hD : va_D A [oO mo 6 [.int th, .ref a1, .int (nI nC), .ref a2, .ref a3, .ref a4, .ref a5, .ref a6, .ref a7, .ref a8, .ref a9, .int (nI nS), .ref a10, .int (nI nM), .ref a11], aI D a3 24 ks, aI D a4 384 (rwF tm (16 * k0) 0 (fun z => x - tm (16 * k0 + n - 1 - z))), aI D a5 384 (rwF wo (16 * k0) 0 (fun z => wo (16 * k0 + n - 1 - z))), aI D a6 384 ea, aI D ow 48 (owF (fun z => x - tm (16 * k0 + n - 1 - z)) (fun z => wo (16 * k0 + n - 1 - z)) (fun z => mirE (if z + 1 = n then 1 else ea (16 * k0 + n - 1 - z - 1))) n)] := hD
        have hcv6 : (rwF ea (16 * k0) 0 (fun z => mirE (if z + 1 = n then 1 else ea (16 * k0 + n - 1 - z - 1)))) = ea := rwF_0
        have hP := Eq.mpr (congrArg (fun z9 => va_P D cls [oO mo 6 [.int th, .ref a1, .int (nI nC), .ref a2, .ref a3, .ref a4, .ref a5, .ref a6, .ref a7, .ref a8, .ref a9, .int (nI nS), .ref a10, .int (nI nM), .ref a11], aI D a3 24 ks, aI D a4 384 (rwF tm (16 * k0) 0 (fun z => x - tm (16 * k0 + n - 1 - z))), aI D a5 384 (rwF wo (16 * k0) 0 (fun z => wo (16 * k0 + n - 1 - z))), aI D a6 384 z9, aI D ow 48 (owF (fun z => x - tm (16 * k0 + n - 1 - z)) (fun z => wo (16 * k0 + n - 1 - z)) (fun z => mirE (if z + 1 = n then 1 else ea (16 * k0 + n - 1 - z - 1))) n)] H) hcv6) hP
        have hD := Eq.mpr (congrArg (fun z9 => va_D A [oO mo 6 [.int th, .ref a1, .int (nI nC), .ref a2, .ref a3, .ref a4, .ref a5, .ref a6, .ref a7, .ref a8, .ref a9, .int (nI nS), .ref a10, .int (nI nM), .ref a11], aI D a3 24 ks, aI D a4 384 (rwF tm (16 * k0) 0 (fun z => x - tm (16 * k0 + n - 1 - z))), aI D a5 384 (rwF wo (16 * k0) 0 (fun z => wo (16 * k0 + n - 1 - z))), aI D a6 384 z9, aI D ow 48 (owF (fun z => x - tm (16 * k0 + n - 1 - z)) (fun z => wo (16 * k0 + n - 1 - z)) (fun z => mirE (if z + 1 = n then 1 else ea (16 * k0 + n - 1 - z - 1))) n)]) hcv6) hD
        have hP : va_P D cls [oO mo 6 [.int th, .ref a1, .int (nI nC), .ref a2, .ref a3, .ref a4, .ref a5, .ref a6, .ref a7, .ref a8, .ref a9, .int (nI nS), .ref a10, .int (nI nM), .ref a11], aI D a3 24 ks, aI D a4 384 (rwF tm (16 * k0) 0 (fun z => x - tm (16 * k0 + n - 1 - z))), aI D a5 384 (rwF wo (16 * k0) 0 (fun z => wo (16 * k0 + n - 1 - z))), aI D a6 384 (rwF ea (16 * k0) 0 (fun z => mirE (if z + 1 = n then 1 else ea (16 * k0 + n - 1 - z - 1)))), aI D ow 48 (owF (fun z => x - tm (16 * k0 + n - 1 - z)) (fun z => wo (16 * k0 + n - 1 - z)) (fun z => mirE (if z + 1 = n then 1 else ea (16 * k0 + n - 1 - z - 1))) n)] H := hP
        have hD : va_D A [oO mo 6 [.int th, .ref a1, .int (nI nC), .ref a2, .ref a3, .ref a4, .ref a5, .ref a6, .ref a7, .ref a8, .ref a9, .int (nI nS), .ref a10, .int (nI nM), .ref a11], aI D a3 24 ks, aI D a4 384 (rwF tm (16 * k0) 0 (fun z => x - tm (16 * k0 + n - 1 - z))), aI D a5 384 (rwF wo (16 * k0) 0 (fun z => wo (16 * k0 + n - 1 - z))), aI D a6 384 (rwF ea (16 * k0) 0 (fun z => mirE (if z + 1 = n then 1 else ea (16 * k0 + n - 1 - z - 1)))), aI D ow 48 (owF (fun z => x - tm (16 * k0 + n - 1 - z)) (fun z => wo (16 * k0 + n - 1 - z)) (fun z => mirE (if z + 1 = n then 1 else ea (16 * k0 + n - 1 - z - 1))) n)] := hD
        exact loop130 _ 0 (Nat.lt_succ_self _) (by omega) _ _ _ hP hD hS (lv_sub hl [1, 2, 3, 4, 5, 0] rfl)
      · skip
        have n19 := mt (nI_leI (a := n) (b := k) (by omega) (by omega)).mpr c19
        refine lv_iload_n hx hb dX6_mirrorTrack_22 rfl (lv_at hl 1 rfl) ?_
        have hP9 : va_P D cls [] H := fun k q h => by simp at h
        refine vp_callSi (pS (rest := []) [.int (nI k0)] 1 hC (m_row l D (j := k0) ) (gS mM_X6_78 mT_X6_row mN_X6 mC_X6_row) (by decide +kernel) rfl rfl ⟨Nat.le_of_ble_eq_true rfl, Nat.le_of_ble_eq_true rfl⟩ hG hP9 rfl hl.1 rfl (Nat.le_of_ble_eq_true rfl) dX6_mirrorTrack_23 ⟨Nat.le_of_ble_eq_true rfl, Nat.le_of_ble_eq_true rfl⟩) (fun r23 h23 => ?_)
        obtain rfl : r23 = (nI (16 * k0)) := h23
        refine lv_iload_n hx hb dX6_mirrorTrack_26 rfl (lv_at hl 3 rfl) ?_
        refine lv_iadd hx hb dX6_mirrorTrack_27 ?_
        refine tpi (y := nI ((16 * k0) + n)) (nI_add (16 * k0) n) ?_
        refine lv_iconst (v := 1) hx hb dX6_mirrorTrack_28 (by decide) ?_
        refine lv_isub hx hb dX6_mirrorTrack_29 ?_
        refine tpi (y := nI (((16 * k0) + n) - 1)) (pk_sub (a := ((16 * k0) + n)) (b := 1) (by omega)) ?_
        refine lv_iload hx hb dX6_mirrorTrack_30 (lv_at hl 5 rfl) ?_
        refine lv_isub hx hb dX6_mirrorTrack_32 ?_
        refine tpi (y := nI ((((16 * k0) + n) - 1) - k)) (pk_sub (a := (((16 * k0) + n) - 1)) (b := k) (by omega)) ?_
        refine lv_istore (lv' := [(6, .int (nI ((((16 * k0) + n) - 1) - k))), (0, .ref mo), (1, .int (nI k0)), (2, .int x), (3, .int (nI n)), (4, .ref ow), (5, .int (nI k))]) hx hb dX6_mirrorTrack_33 hl (by decide) rfl (fun ls hl => ?_)
        refine lv_iload hx hb dX6_mirrorTrack_35 (lv_at hl 6 rfl) ?_
        refine lv_iconst (v := 1) hx hb dX6_mirrorTrack_37 (by decide) ?_
        refine lv_iadd hx hb dX6_mirrorTrack_38 ?_
        refine tpi (y := nI (k + 1)) (nI_add k 1) ?_
        refine lv_iload_n hx hb dX6_mirrorTrack_39 rfl (lv_at hl 4 rfl) ?_
        refine lv_icmp_ne (tgt := 47) hx hb dX6_mirrorTrack_40 (by decide) (fun c40 => ?_) (fun c40 => ?_)
        · skip
          have n40 := mt (nI_eq (a := k + 1) (b := n) (by omega) (by omega)).mpr c40
          refine lv_aload_n hx hb dX6_mirrorTrack_47 rfl (lv_at hl 1 rfl) ?_
          refine va_get (D := D) (ci := 6) (v := .ref a6) (C := RX6) (T := TX6) (N := 15) hx hb hts inlX6 hown hG.K hP 0 rfl rfl 7 (by decide) (hts _ mF_X6_25) (fun _ h9 => h9) rfl dX6_mirrorTrack_48 ?_
          refine lv_iload hx hb dX6_mirrorTrack_51 (lv_at hl 0 rfl) ?_
          refine lv_iconst (v := 1) hx hb dX6_mirrorTrack_53 (by decide) ?_
          refine lv_isub hx hb dX6_mirrorTrack_54 ?_
          refine tpi (y := nI (((((16 * k0) + n) - 1) - k) - 1)) (pk_sub (a := ((((16 * k0) + n) - 1) - k)) (b := 1) (by omega)) ?_
          refine ild (n := 384) (j := ((((16 * k0) + n) - 1) - k) - 1) hx hb hG hP 4 rfl (by omega) (by omega) dX6_mirrorTrack_55 ?_
          refine lv_istore (lv' := [(7, .int (ea (((((16 * k0) + n) - 1) - k) - 1))), (6, .int (nI ((((16 * k0) + n) - 1) - k))), (0, .ref mo), (1, .int (nI k0)), (2, .int x), (3, .int (nI n)), (4, .ref ow), (5, .int (nI k))]) hx hb dX6_mirrorTrack_56 hl (by decide) rfl (fun ls hl => ?_)
          refine lv_aload hx hb dX6_mirrorTrack_58 (lv_at hl 6 rfl) ?_
          refine lv_iconst (v := 3) hx hb dX6_mirrorTrack_60 (by decide) ?_
          refine lv_iload hx hb dX6_mirrorTrack_61 (lv_at hl 7 rfl) ?_
          refine lv_imul hx hb dX6_mirrorTrack_63 ?_
          refine tpi (y := nI (3 * k)) (pk_mul 3 k) ?_
          refine lv_iload_n hx hb dX6_mirrorTrack_64 rfl (lv_at hl 4 rfl) ?_
          refine lv_aload_n hx hb dX6_mirrorTrack_65 rfl (lv_at hl 2 rfl) ?_
          refine va_get (D := D) (ci := 6) (v := .ref a4) (C := RX6) (T := TX6) (N := 15) hx hb hts inlX6 hown hG.K hP 0 rfl rfl 5 (by decide) (hts _ mF_X6_19) (fun _ h9 => h9) rfl dX6_mirrorTrack_66 ?_
          refine lv_iload hx hb dX6_mirrorTrack_69 (lv_at hl 1 rfl) ?_
          refine ild (n := 384) (j := (((16 * k0) + n) - 1) - k) hx hb hG hP 2 rfl (by omega) (by omega) dX6_mirrorTrack_71 ?_
          refine lv_isub hx hb dX6_mirrorTrack_72 ?_
          refine ist (n := 48) (j := 3 * k) hx hb hG hP hD hS 5 rfl (by omega) (by omega) dX6_mirrorTrack_73 (fun H locs hP hD hS => ?_)
          have hP : va_P D cls [oO mo 6 [.int th, .ref a1, .int (nI nC), .ref a2, .ref a3, .ref a4, .ref a5, .ref a6, .ref a7, .ref a8, .ref a9, .int (nI nS), .ref a10, .int (nI nM), .ref a11], aI D a3 24 ks, aI D a4 384 tm, aI D a5 384 wo, aI D a6 384 ea, aI D ow 48 (upd (owF (fun z => x - tm (16 * k0 + n - 1 - z)) (fun z => wo (16 * k0 + n - 1 - z)) (fun z => mirE (if z + 1 = n then 1 else ea (16 * k0 + n - 1 - z - 1))) k) (3 * k) (x - (tm ((((16 * k0) + n) - 1) - k))))] H := hP
          have hD : va_D A [oO mo 6 [.int th, .ref a1, .int (nI nC), .ref a2, .ref a3, .ref a4, .ref a5, .ref a6, .ref a7, .ref a8, .ref a9, .int (nI nS), .ref a10, .int (nI nM), .ref a11], aI D a3 24 ks, aI D a4 384 tm, aI D a5 384 wo, aI D a6 384 ea, aI D ow 48 (upd (owF (fun z => x - tm (16 * k0 + n - 1 - z)) (fun z => wo (16 * k0 + n - 1 - z)) (fun z => mirE (if z + 1 = n then 1 else ea (16 * k0 + n - 1 - z - 1))) k) (3 * k) (x - (tm ((((16 * k0) + n) - 1) - k))))] := hD
          refine lv_aload hx hb dX6_mirrorTrack_74 (lv_at hl 6 rfl) ?_
          refine lv_iconst (v := 3) hx hb dX6_mirrorTrack_76 (by decide) ?_
          refine lv_iload hx hb dX6_mirrorTrack_77 (lv_at hl 7 rfl) ?_
          refine lv_imul hx hb dX6_mirrorTrack_79 ?_
          refine tpi (y := nI (3 * k)) (pk_mul 3 k) ?_
          refine lv_iconst (v := 1) hx hb dX6_mirrorTrack_80 (by decide) ?_
          refine lv_iadd hx hb dX6_mirrorTrack_81 ?_
          refine tpi (y := nI ((3 * k) + 1)) (nI_add (3 * k) 1) ?_
          refine lv_aload_n hx hb dX6_mirrorTrack_82 rfl (lv_at hl 2 rfl) ?_
          refine va_get (D := D) (ci := 6) (v := .ref a5) (C := RX6) (T := TX6) (N := 15) hx hb hts inlX6 hown hG.K hP 0 rfl rfl 6 (by decide) (hts _ mF_X6_22) (fun _ h9 => h9) rfl dX6_mirrorTrack_83 ?_
          refine lv_iload hx hb dX6_mirrorTrack_86 (lv_at hl 1 rfl) ?_
          refine ild (n := 384) (j := (((16 * k0) + n) - 1) - k) hx hb hG hP 3 rfl (by omega) (by omega) dX6_mirrorTrack_88 ?_
          refine ist (n := 48) (j := (3 * k) + 1) hx hb hG hP hD hS 5 rfl (by omega) (by omega) dX6_mirrorTrack_89 (fun H locs hP hD hS => ?_)
          have hP : va_P D cls [oO mo 6 [.int th, .ref a1, .int (nI nC), .ref a2, .ref a3, .ref a4, .ref a5, .ref a6, .ref a7, .ref a8, .ref a9, .int (nI nS), .ref a10, .int (nI nM), .ref a11], aI D a3 24 ks, aI D a4 384 tm, aI D a5 384 wo, aI D a6 384 ea, aI D ow 48 (upd (upd (owF (fun z => x - tm (16 * k0 + n - 1 - z)) (fun z => wo (16 * k0 + n - 1 - z)) (fun z => mirE (if z + 1 = n then 1 else ea (16 * k0 + n - 1 - z - 1))) k) (3 * k) (x - (tm ((((16 * k0) + n) - 1) - k)))) ((3 * k) + 1) (wo ((((16 * k0) + n) - 1) - k)))] H := hP
          have hD : va_D A [oO mo 6 [.int th, .ref a1, .int (nI nC), .ref a2, .ref a3, .ref a4, .ref a5, .ref a6, .ref a7, .ref a8, .ref a9, .int (nI nS), .ref a10, .int (nI nM), .ref a11], aI D a3 24 ks, aI D a4 384 tm, aI D a5 384 wo, aI D a6 384 ea, aI D ow 48 (upd (upd (owF (fun z => x - tm (16 * k0 + n - 1 - z)) (fun z => wo (16 * k0 + n - 1 - z)) (fun z => mirE (if z + 1 = n then 1 else ea (16 * k0 + n - 1 - z - 1))) k) (3 * k) (x - (tm ((((16 * k0) + n) - 1) - k)))) ((3 * k) + 1) (wo ((((16 * k0) + n) - 1) - k)))] := hD
          refine lv_aload hx hb dX6_mirrorTrack_90 (lv_at hl 6 rfl) ?_
          refine lv_iconst (v := 3) hx hb dX6_mirrorTrack_92 (by decide) ?_
          refine lv_iload hx hb dX6_mirrorTrack_93 (lv_at hl 7 rfl) ?_
          refine lv_imul hx hb dX6_mirrorTrack_95 ?_
          refine tpi (y := nI (3 * k)) (pk_mul 3 k) ?_
          refine lv_iconst (v := 2) hx hb dX6_mirrorTrack_96 (by decide) ?_
          refine lv_iadd hx hb dX6_mirrorTrack_97 ?_
          refine tpi (y := nI ((3 * k) + 2)) (nI_add (3 * k) 2) ?_
          refine lv_iload hx hb dX6_mirrorTrack_98 (lv_at hl 0 rfl) ?_
          refine lv_iconst (v := 2) hx hb dX6_mirrorTrack_100 (by decide) ?_
          refine lv_icmp_ne (tgt := 108) hx hb dX6_mirrorTrack_101 (by decide) (fun c101 => ?_) (fun c101 => ?_)
          · skip
            refine lv_iload hx hb dX6_mirrorTrack_108 (lv_at hl 0 rfl) ?_
            refine lv_iconst (v := 3) hx hb dX6_mirrorTrack_110 (by decide) ?_
            refine lv_icmp_ne (tgt := 118) hx hb dX6_mirrorTrack_111 (by decide) (fun c111 => ?_) (fun c111 => ?_)
            · skip
              refine lv_iload hx hb dX6_mirrorTrack_118 (lv_at hl 0 rfl) ?_
              refine ist (n := 48) (j := (3 * k) + 2) hx hb hG hP hD hS 5 rfl (by omega) (by omega) dX6_mirrorTrack_120 (fun H locs hP hD hS => ?_)
              have hfn : upd (upd (upd (owF (fun z => x - tm (16 * k0 + n - 1 - z)) (fun z => wo (16 * k0 + n - 1 - z)) (fun z => mirE (if z + 1 = n then 1 else ea (16 * k0 + n - 1 - z - 1))) k) (3 * k) (x - (tm ((((16 * k0) + n) - 1) - k)))) ((3 * k) + 1) (wo ((((16 * k0) + n) - 1) - k))) ((3 * k) + 2) (ea (((((16 * k0) + n) - 1) - k) - 1)) = (owF (fun z => x - tm (16 * k0 + n - 1 - z)) (fun z => wo (16 * k0 + n - 1 - z)) (fun z => mirE (if z + 1 = n then 1 else ea (16 * k0 + n - 1 - z - 1))) (k + 1)) := owF_step (by show _ = mirE (if k + 1 = n then 1 else _); rw [if_neg n40, mirE, if_neg c101, if_neg c111])
              have hP : va_P D cls [oO mo 6 [.int th, .ref a1, .int (nI nC), .ref a2, .ref a3, .ref a4, .ref a5, .ref a6, .ref a7, .ref a8, .ref a9, .int (nI nS), .ref a10, .int (nI nM), .ref a11], aI D a3 24 ks, aI D a4 384 tm, aI D a5 384 wo, aI D a6 384 ea, aI D ow 48 (owF (fun z => x - tm (16 * k0 + n - 1 - z)) (fun z => wo (16 * k0 + n - 1 - z)) (fun z => mirE (if z + 1 = n then 1 else ea (16 * k0 + n - 1 - z - 1))) (k + 1))] H := by rw [← hfn]; exact hP
              have hD : va_D A [oO mo 6 [.int th, .ref a1, .int (nI nC), .ref a2, .ref a3, .ref a4, .ref a5, .ref a6, .ref a7, .ref a8, .ref a9, .int (nI nS), .ref a10, .int (nI nM), .ref a11], aI D a3 24 ks, aI D a4 384 tm, aI D a5 384 wo, aI D a6 384 ea, aI D ow 48 (owF (fun z => x - tm (16 * k0 + n - 1 - z)) (fun z => wo (16 * k0 + n - 1 - z)) (fun z => mirE (if z + 1 = n then 1 else ea (16 * k0 + n - 1 - z - 1))) (k + 1))] := by rw [← hfn]; exact hD
              refine lv_iinc (v := nI (k + 1)) (lv' := [(5, .int (nI (k + 1))), (7, .int (ea (((((16 * k0) + n) - 1) - k) - 1))), (6, .int (nI ((((16 * k0) + n) - 1) - k))), (0, .ref mo), (1, .int (nI k0)), (2, .int x), (3, .int (nI n)), (4, .ref ow)]) hx hb dX6_mirrorTrack_121 hl (k := 7) rfl (nI_1 _) (by decide) rfl (fun ls hl => ?_)
              refine lv_goto (tgt := 16) hx hb dX6_mirrorTrack_124 (by decide) ?_
              exact ih16 (k + 1) (by omega) (by omega) _ _ _ hP hD hS (lv_sub hl [3, 4, 5, 6, 7, 0] rfl)
            · skip
              refine lv_iconst (v := 2) hx hb dX6_mirrorTrack_114 (by decide) ?_
              refine lv_goto (tgt := 120) hx hb dX6_mirrorTrack_115 (by decide) ?_
              refine ist (n := 48) (j := (3 * k) + 2) hx hb hG hP hD hS 5 rfl (by omega) (by omega) dX6_mirrorTrack_120 (fun H locs hP hD hS => ?_)
              have hfn : upd (upd (upd (owF (fun z => x - tm (16 * k0 + n - 1 - z)) (fun z => wo (16 * k0 + n - 1 - z)) (fun z => mirE (if z + 1 = n then 1 else ea (16 * k0 + n - 1 - z - 1))) k) (3 * k) (x - (tm ((((16 * k0) + n) - 1) - k)))) ((3 * k) + 1) (wo ((((16 * k0) + n) - 1) - k))) ((3 * k) + 2) 2 = (owF (fun z => x - tm (16 * k0 + n - 1 - z)) (fun z => wo (16 * k0 + n - 1 - z)) (fun z => mirE (if z + 1 = n then 1 else ea (16 * k0 + n - 1 - z - 1))) (k + 1)) := owF_step (by show _ = mirE (if k + 1 = n then 1 else _); rw [if_neg n40, mirE, if_neg c101, if_pos c111])
              have hP : va_P D cls [oO mo 6 [.int th, .ref a1, .int (nI nC), .ref a2, .ref a3, .ref a4, .ref a5, .ref a6, .ref a7, .ref a8, .ref a9, .int (nI nS), .ref a10, .int (nI nM), .ref a11], aI D a3 24 ks, aI D a4 384 tm, aI D a5 384 wo, aI D a6 384 ea, aI D ow 48 (owF (fun z => x - tm (16 * k0 + n - 1 - z)) (fun z => wo (16 * k0 + n - 1 - z)) (fun z => mirE (if z + 1 = n then 1 else ea (16 * k0 + n - 1 - z - 1))) (k + 1))] H := by rw [← hfn]; exact hP
              have hD : va_D A [oO mo 6 [.int th, .ref a1, .int (nI nC), .ref a2, .ref a3, .ref a4, .ref a5, .ref a6, .ref a7, .ref a8, .ref a9, .int (nI nS), .ref a10, .int (nI nM), .ref a11], aI D a3 24 ks, aI D a4 384 tm, aI D a5 384 wo, aI D a6 384 ea, aI D ow 48 (owF (fun z => x - tm (16 * k0 + n - 1 - z)) (fun z => wo (16 * k0 + n - 1 - z)) (fun z => mirE (if z + 1 = n then 1 else ea (16 * k0 + n - 1 - z - 1))) (k + 1))] := by rw [← hfn]; exact hD
              refine lv_iinc (v := nI (k + 1)) (lv' := [(5, .int (nI (k + 1))), (7, .int (ea (((((16 * k0) + n) - 1) - k) - 1))), (6, .int (nI ((((16 * k0) + n) - 1) - k))), (0, .ref mo), (1, .int (nI k0)), (2, .int x), (3, .int (nI n)), (4, .ref ow)]) hx hb dX6_mirrorTrack_121 hl (k := 7) rfl (nI_1 _) (by decide) rfl (fun ls hl => ?_)
              refine lv_goto (tgt := 16) hx hb dX6_mirrorTrack_124 (by decide) ?_
              exact ih16 (k + 1) (by omega) (by omega) _ _ _ hP hD hS (lv_sub hl [3, 4, 5, 6, 7, 0] rfl)
          · skip
            refine lv_iconst (v := 3) hx hb dX6_mirrorTrack_104 (by decide) ?_
            refine lv_goto (tgt := 120) hx hb dX6_mirrorTrack_105 (by decide) ?_
            refine ist (n := 48) (j := (3 * k) + 2) hx hb hG hP hD hS 5 rfl (by omega) (by omega) dX6_mirrorTrack_120 (fun H locs hP hD hS => ?_)
            have hfn : upd (upd (upd (owF (fun z => x - tm (16 * k0 + n - 1 - z)) (fun z => wo (16 * k0 + n - 1 - z)) (fun z => mirE (if z + 1 = n then 1 else ea (16 * k0 + n - 1 - z - 1))) k) (3 * k) (x - (tm ((((16 * k0) + n) - 1) - k)))) ((3 * k) + 1) (wo ((((16 * k0) + n) - 1) - k))) ((3 * k) + 2) 3 = (owF (fun z => x - tm (16 * k0 + n - 1 - z)) (fun z => wo (16 * k0 + n - 1 - z)) (fun z => mirE (if z + 1 = n then 1 else ea (16 * k0 + n - 1 - z - 1))) (k + 1)) := owF_step (by show _ = mirE (if k + 1 = n then 1 else _); rw [if_neg n40, mirE, if_pos c101])
            have hP : va_P D cls [oO mo 6 [.int th, .ref a1, .int (nI nC), .ref a2, .ref a3, .ref a4, .ref a5, .ref a6, .ref a7, .ref a8, .ref a9, .int (nI nS), .ref a10, .int (nI nM), .ref a11], aI D a3 24 ks, aI D a4 384 tm, aI D a5 384 wo, aI D a6 384 ea, aI D ow 48 (owF (fun z => x - tm (16 * k0 + n - 1 - z)) (fun z => wo (16 * k0 + n - 1 - z)) (fun z => mirE (if z + 1 = n then 1 else ea (16 * k0 + n - 1 - z - 1))) (k + 1))] H := by rw [← hfn]; exact hP
            have hD : va_D A [oO mo 6 [.int th, .ref a1, .int (nI nC), .ref a2, .ref a3, .ref a4, .ref a5, .ref a6, .ref a7, .ref a8, .ref a9, .int (nI nS), .ref a10, .int (nI nM), .ref a11], aI D a3 24 ks, aI D a4 384 tm, aI D a5 384 wo, aI D a6 384 ea, aI D ow 48 (owF (fun z => x - tm (16 * k0 + n - 1 - z)) (fun z => wo (16 * k0 + n - 1 - z)) (fun z => mirE (if z + 1 = n then 1 else ea (16 * k0 + n - 1 - z - 1))) (k + 1))] := by rw [← hfn]; exact hD
            refine lv_iinc (v := nI (k + 1)) (lv' := [(5, .int (nI (k + 1))), (7, .int (ea (((((16 * k0) + n) - 1) - k) - 1))), (6, .int (nI ((((16 * k0) + n) - 1) - k))), (0, .ref mo), (1, .int (nI k0)), (2, .int x), (3, .int (nI n)), (4, .ref ow)]) hx hb dX6_mirrorTrack_121 hl (k := 7) rfl (nI_1 _) (by decide) rfl (fun ls hl => ?_)
            refine lv_goto (tgt := 16) hx hb dX6_mirrorTrack_124 (by decide) ?_
            exact ih16 (k + 1) (by omega) (by omega) _ _ _ hP hD hS (lv_sub hl [3, 4, 5, 6, 7, 0] rfl)
        · skip
          have n40 := (nI_eq (a := k + 1) (b := n) (by omega) (by omega)).mp c40
          refine lv_iconst (v := 1) hx hb dX6_mirrorTrack_43 (by decide) ?_
          refine lv_goto (tgt := 56) hx hb dX6_mirrorTrack_44 (by decide) ?_
          refine lv_istore (lv' := [(7, .int 1), (6, .int (nI ((((16 * k0) + n) - 1) - k))), (0, .ref mo), (1, .int (nI k0)), (2, .int x), (3, .int (nI n)), (4, .ref ow), (5, .int (nI k))]) hx hb dX6_mirrorTrack_56 hl (by decide) rfl (fun ls hl => ?_)
          refine lv_aload hx hb dX6_mirrorTrack_58 (lv_at hl 6 rfl) ?_
          refine lv_iconst (v := 3) hx hb dX6_mirrorTrack_60 (by decide) ?_
          refine lv_iload hx hb dX6_mirrorTrack_61 (lv_at hl 7 rfl) ?_
          refine lv_imul hx hb dX6_mirrorTrack_63 ?_
          refine tpi (y := nI (3 * k)) (pk_mul 3 k) ?_
          refine lv_iload_n hx hb dX6_mirrorTrack_64 rfl (lv_at hl 4 rfl) ?_
          refine lv_aload_n hx hb dX6_mirrorTrack_65 rfl (lv_at hl 2 rfl) ?_
          refine va_get (D := D) (ci := 6) (v := .ref a4) (C := RX6) (T := TX6) (N := 15) hx hb hts inlX6 hown hG.K hP 0 rfl rfl 5 (by decide) (hts _ mF_X6_19) (fun _ h9 => h9) rfl dX6_mirrorTrack_66 ?_
          refine lv_iload hx hb dX6_mirrorTrack_69 (lv_at hl 1 rfl) ?_
          refine ild (n := 384) (j := (((16 * k0) + n) - 1) - k) hx hb hG hP 2 rfl (by omega) (by omega) dX6_mirrorTrack_71 ?_
          refine lv_isub hx hb dX6_mirrorTrack_72 ?_
          refine ist (n := 48) (j := 3 * k) hx hb hG hP hD hS 5 rfl (by omega) (by omega) dX6_mirrorTrack_73 (fun H locs hP hD hS => ?_)
          have hP : va_P D cls [oO mo 6 [.int th, .ref a1, .int (nI nC), .ref a2, .ref a3, .ref a4, .ref a5, .ref a6, .ref a7, .ref a8, .ref a9, .int (nI nS), .ref a10, .int (nI nM), .ref a11], aI D a3 24 ks, aI D a4 384 tm, aI D a5 384 wo, aI D a6 384 ea, aI D ow 48 (upd (owF (fun z => x - tm (16 * k0 + n - 1 - z)) (fun z => wo (16 * k0 + n - 1 - z)) (fun z => mirE (if z + 1 = n then 1 else ea (16 * k0 + n - 1 - z - 1))) k) (3 * k) (x - (tm ((((16 * k0) + n) - 1) - k))))] H := hP
          have hD : va_D A [oO mo 6 [.int th, .ref a1, .int (nI nC), .ref a2, .ref a3, .ref a4, .ref a5, .ref a6, .ref a7, .ref a8, .ref a9, .int (nI nS), .ref a10, .int (nI nM), .ref a11], aI D a3 24 ks, aI D a4 384 tm, aI D a5 384 wo, aI D a6 384 ea, aI D ow 48 (upd (owF (fun z => x - tm (16 * k0 + n - 1 - z)) (fun z => wo (16 * k0 + n - 1 - z)) (fun z => mirE (if z + 1 = n then 1 else ea (16 * k0 + n - 1 - z - 1))) k) (3 * k) (x - (tm ((((16 * k0) + n) - 1) - k))))] := hD
          refine lv_aload hx hb dX6_mirrorTrack_74 (lv_at hl 6 rfl) ?_
          refine lv_iconst (v := 3) hx hb dX6_mirrorTrack_76 (by decide) ?_
          refine lv_iload hx hb dX6_mirrorTrack_77 (lv_at hl 7 rfl) ?_
          refine lv_imul hx hb dX6_mirrorTrack_79 ?_
          refine tpi (y := nI (3 * k)) (pk_mul 3 k) ?_
          refine lv_iconst (v := 1) hx hb dX6_mirrorTrack_80 (by decide) ?_
          refine lv_iadd hx hb dX6_mirrorTrack_81 ?_
          refine tpi (y := nI ((3 * k) + 1)) (nI_add (3 * k) 1) ?_
          refine lv_aload_n hx hb dX6_mirrorTrack_82 rfl (lv_at hl 2 rfl) ?_
          refine va_get (D := D) (ci := 6) (v := .ref a5) (C := RX6) (T := TX6) (N := 15) hx hb hts inlX6 hown hG.K hP 0 rfl rfl 6 (by decide) (hts _ mF_X6_22) (fun _ h9 => h9) rfl dX6_mirrorTrack_83 ?_
          refine lv_iload hx hb dX6_mirrorTrack_86 (lv_at hl 1 rfl) ?_
          refine ild (n := 384) (j := (((16 * k0) + n) - 1) - k) hx hb hG hP 3 rfl (by omega) (by omega) dX6_mirrorTrack_88 ?_
          refine ist (n := 48) (j := (3 * k) + 1) hx hb hG hP hD hS 5 rfl (by omega) (by omega) dX6_mirrorTrack_89 (fun H locs hP hD hS => ?_)
          have hP : va_P D cls [oO mo 6 [.int th, .ref a1, .int (nI nC), .ref a2, .ref a3, .ref a4, .ref a5, .ref a6, .ref a7, .ref a8, .ref a9, .int (nI nS), .ref a10, .int (nI nM), .ref a11], aI D a3 24 ks, aI D a4 384 tm, aI D a5 384 wo, aI D a6 384 ea, aI D ow 48 (upd (upd (owF (fun z => x - tm (16 * k0 + n - 1 - z)) (fun z => wo (16 * k0 + n - 1 - z)) (fun z => mirE (if z + 1 = n then 1 else ea (16 * k0 + n - 1 - z - 1))) k) (3 * k) (x - (tm ((((16 * k0) + n) - 1) - k)))) ((3 * k) + 1) (wo ((((16 * k0) + n) - 1) - k)))] H := hP
          have hD : va_D A [oO mo 6 [.int th, .ref a1, .int (nI nC), .ref a2, .ref a3, .ref a4, .ref a5, .ref a6, .ref a7, .ref a8, .ref a9, .int (nI nS), .ref a10, .int (nI nM), .ref a11], aI D a3 24 ks, aI D a4 384 tm, aI D a5 384 wo, aI D a6 384 ea, aI D ow 48 (upd (upd (owF (fun z => x - tm (16 * k0 + n - 1 - z)) (fun z => wo (16 * k0 + n - 1 - z)) (fun z => mirE (if z + 1 = n then 1 else ea (16 * k0 + n - 1 - z - 1))) k) (3 * k) (x - (tm ((((16 * k0) + n) - 1) - k)))) ((3 * k) + 1) (wo ((((16 * k0) + n) - 1) - k)))] := hD
          refine lv_aload hx hb dX6_mirrorTrack_90 (lv_at hl 6 rfl) ?_
          refine lv_iconst (v := 3) hx hb dX6_mirrorTrack_92 (by decide) ?_
          refine lv_iload hx hb dX6_mirrorTrack_93 (lv_at hl 7 rfl) ?_
          refine lv_imul hx hb dX6_mirrorTrack_95 ?_
          refine tpi (y := nI (3 * k)) (pk_mul 3 k) ?_
          refine lv_iconst (v := 2) hx hb dX6_mirrorTrack_96 (by decide) ?_
          refine lv_iadd hx hb dX6_mirrorTrack_97 ?_
          refine tpi (y := nI ((3 * k) + 2)) (nI_add (3 * k) 2) ?_
          refine lv_iload hx hb dX6_mirrorTrack_98 (lv_at hl 0 rfl) ?_
          refine lv_iconst (v := 2) hx hb dX6_mirrorTrack_100 (by decide) ?_
          refine lv_icmp_ne (tgt := 108) hx hb dX6_mirrorTrack_101 (by decide) (fun _ => ?_) (fun h9 => absurd h9 (by decide))
          refine lv_iload hx hb dX6_mirrorTrack_108 (lv_at hl 0 rfl) ?_
          refine lv_iconst (v := 3) hx hb dX6_mirrorTrack_110 (by decide) ?_
          refine lv_icmp_ne (tgt := 118) hx hb dX6_mirrorTrack_111 (by decide) (fun _ => ?_) (fun h9 => absurd h9 (by decide))
          refine lv_iload hx hb dX6_mirrorTrack_118 (lv_at hl 0 rfl) ?_
          refine ist (n := 48) (j := (3 * k) + 2) hx hb hG hP hD hS 5 rfl (by omega) (by omega) dX6_mirrorTrack_120 (fun H locs hP hD hS => ?_)
          have hfn : upd (upd (upd (owF (fun z => x - tm (16 * k0 + n - 1 - z)) (fun z => wo (16 * k0 + n - 1 - z)) (fun z => mirE (if z + 1 = n then 1 else ea (16 * k0 + n - 1 - z - 1))) k) (3 * k) (x - (tm ((((16 * k0) + n) - 1) - k)))) ((3 * k) + 1) (wo ((((16 * k0) + n) - 1) - k))) ((3 * k) + 2) 1 = (owF (fun z => x - tm (16 * k0 + n - 1 - z)) (fun z => wo (16 * k0 + n - 1 - z)) (fun z => mirE (if z + 1 = n then 1 else ea (16 * k0 + n - 1 - z - 1))) (k + 1)) := owF_step (by show _ = mirE (if k + 1 = n then 1 else _); rw [if_pos n40]; decide)
          have hP : va_P D cls [oO mo 6 [.int th, .ref a1, .int (nI nC), .ref a2, .ref a3, .ref a4, .ref a5, .ref a6, .ref a7, .ref a8, .ref a9, .int (nI nS), .ref a10, .int (nI nM), .ref a11], aI D a3 24 ks, aI D a4 384 tm, aI D a5 384 wo, aI D a6 384 ea, aI D ow 48 (owF (fun z => x - tm (16 * k0 + n - 1 - z)) (fun z => wo (16 * k0 + n - 1 - z)) (fun z => mirE (if z + 1 = n then 1 else ea (16 * k0 + n - 1 - z - 1))) (k + 1))] H := by rw [← hfn]; exact hP
          have hD : va_D A [oO mo 6 [.int th, .ref a1, .int (nI nC), .ref a2, .ref a3, .ref a4, .ref a5, .ref a6, .ref a7, .ref a8, .ref a9, .int (nI nS), .ref a10, .int (nI nM), .ref a11], aI D a3 24 ks, aI D a4 384 tm, aI D a5 384 wo, aI D a6 384 ea, aI D ow 48 (owF (fun z => x - tm (16 * k0 + n - 1 - z)) (fun z => wo (16 * k0 + n - 1 - z)) (fun z => mirE (if z + 1 = n then 1 else ea (16 * k0 + n - 1 - z - 1))) (k + 1))] := by rw [← hfn]; exact hD
          refine lv_iinc (v := nI (k + 1)) (lv' := [(5, .int (nI (k + 1))), (7, .int 1), (6, .int (nI ((((16 * k0) + n) - 1) - k))), (0, .ref mo), (1, .int (nI k0)), (2, .int x), (3, .int (nI n)), (4, .ref ow)]) hx hb dX6_mirrorTrack_121 hl (k := 7) rfl (nI_1 _) (by decide) rfl (fun ls hl => ?_)
          refine lv_goto (tgt := 16) hx hb dX6_mirrorTrack_124 (by decide) ?_
          exact ih16 (k + 1) (by omega) (by omega) _ _ _ hP hD hS (lv_sub hl [3, 4, 5, 6, 7, 0] rfl)
  have hcv7 : (owF (fun z => x - tm (16 * k0 + n - 1 - z)) (fun z => wo (16 * k0 + n - 1 - z)) (fun z => mirE (if z + 1 = n then 1 else ea (16 * k0 + n - 1 - z - 1))) 0) = (fun _ => 0) := owF_0
  have hP := Eq.mpr (congrArg (fun z9 => va_P D cls [oO mo 6 [.int th, .ref a1, .int (nI nC), .ref a2, .ref a3, .ref a4, .ref a5, .ref a6, .ref a7, .ref a8, .ref a9, .int (nI nS), .ref a10, .int (nI nM), .ref a11], aI D a3 24 ks, aI D a4 384 tm, aI D a5 384 wo, aI D a6 384 ea, aI D ow 48 z9] H) hcv7) hP
  have hD := Eq.mpr (congrArg (fun z9 => va_D A [oO mo 6 [.int th, .ref a1, .int (nI nC), .ref a2, .ref a3, .ref a4, .ref a5, .ref a6, .ref a7, .ref a8, .ref a9, .int (nI nS), .ref a10, .int (nI nM), .ref a11], aI D a3 24 ks, aI D a4 384 tm, aI D a5 384 wo, aI D a6 384 ea, aI D ow 48 z9]) hcv7) hD
  have hP : va_P D cls [oO mo 6 [.int th, .ref a1, .int (nI nC), .ref a2, .ref a3, .ref a4, .ref a5, .ref a6, .ref a7, .ref a8, .ref a9, .int (nI nS), .ref a10, .int (nI nM), .ref a11], aI D a3 24 ks, aI D a4 384 tm, aI D a5 384 wo, aI D a6 384 ea, aI D ow 48 (owF (fun z => x - tm (16 * k0 + n - 1 - z)) (fun z => wo (16 * k0 + n - 1 - z)) (fun z => mirE (if z + 1 = n then 1 else ea (16 * k0 + n - 1 - z - 1))) 0)] H := hP
  have hD : va_D A [oO mo 6 [.int th, .ref a1, .int (nI nC), .ref a2, .ref a3, .ref a4, .ref a5, .ref a6, .ref a7, .ref a8, .ref a9, .int (nI nS), .ref a10, .int (nI nM), .ref a11], aI D a3 24 ks, aI D a4 384 tm, aI D a5 384 wo, aI D a6 384 ea, aI D ow 48 (owF (fun z => x - tm (16 * k0 + n - 1 - z)) (fun z => wo (16 * k0 + n - 1 - z)) (fun z => mirE (if z + 1 = n then 1 else ea (16 * k0 + n - 1 - z - 1))) 0)] := hD
  exact loop16 _ 0 (Nat.lt_succ_self _) (by omega) _ _ _ hP hD hS (lv_sub hl [3, 4, 5, 2, 1, 0] rfl)
