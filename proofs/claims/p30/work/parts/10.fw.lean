/-- the classes whose objects the worlds hold: 0 Clip, 1 Notes, 2 Row, 3 Strip, 4 Track, 5 KeyStage, 6 KeyStageModel, 7 ArrayList -/
abbrev cls : List vw_C := [(RX0, TX0, 4), (RX1, TX1, 5), (RX2, TX2, 2), (RX3, TX3, 13), (RX4, TX4, 3), (RX5, TX5, 5), (RX5, TX5, 5), (RJx4a65c, TJx4a65c, 3)]
/-- the array classes -/
abbrev tys (D : va_G) : List (ClassId × FieldType) := [(D.1 100, .int), (D.1 101, .int), (D.1 102, .int), (D.1 103, .object "KeyStage$Track"), (D.1 104, .object "java/lang/Object")]
def nwF : List (String × Nat × String × String × String × String) := [("KeyStage", 77, "KeyStage$Clip", "length", "I", "KeyStage"), ("KeyStage", 200, "KeyStage$Strip", "p", "I", "KeyStage"), ("KeyStage", 203, "KeyStage$Strip", "q", "I", "KeyStage"), ("KeyStage", 211, "KeyStage$Strip", "layer", "I", "KeyStage"), ("KeyStage", 214, "KeyStage$Strip", "weight", "I", "KeyStage"), ("KeyStage", 217, "KeyStage$Strip", "isAdded", "Z", "KeyStage"), ("KeyStage", 221, "KeyStage$Strip", "isHeld", "Z", "KeyStage"), ("KeyStage", 226, "KeyStage$Strip", "fadeIn", "I", "KeyStage"), ("KeyStage", 229, "KeyStage$Strip", "fadeOut", "I", "KeyStage"), ("KeyStage", 274, "KeyStage$Notes", "count", "I", "KeyStage"), ("KeyStage", 304, "KeyStage$Strip", "clip", "LKeyStage$Clip;", "KeyStage"), ("KeyStage", 308, "KeyStage$Strip", "rounds", "I", "KeyStage"), ("KeyStage", 314, "KeyStage$Clip", "cueTimes", "LKeyStage$Row;", "KeyStage"), ("KeyStage", 320, "KeyStage$Clip", "cueNumbers", "LKeyStage$Row;", "KeyStage"), ("KeyStage$Strip", 57, "KeyStage$Clip", "length", "I", "KeyStage")]
def nwM : List (String × Nat × MethodName × String) := [("KeyStage", 36, ⟨"KeyStage$Notes", "<init>", "()V"⟩, "KeyStage"), ("KeyStage$Clip", 33, ⟨"KeyStage$Track", "<init>", "()V"⟩, "KeyStage"), ("KeyStage$Strip", 62, ⟨"KeyStage", "roundedUp", "(II)I"⟩, "KeyStage"), ("KeyStage$Strip", 73, ⟨"KeyStage", "cut", "(II)I"⟩, "KeyStage"), ("KeyStage$Strip", 85, ⟨"KeyStage", "rounded", "(JJ)I"⟩, "KeyStage"), ("KeyStage$Track", 55, ⟨"KeyStage", "rounded", "(JJ)I"⟩, "KeyStage")]
def nwC : List (String × String) := [("KeyStage$Clip", "java/lang/Object"), ("KeyStage$Strip", "java/lang/Object")]
def nwN : List (String × String) := []
def nwA : List String := ["KeyStage$Track", "java/lang/Object"]
def nwD : List MethodName := []
def nwS : List (String × Nat × String) := []
/-- what the tables say, at any state of the run -/
def GK (D : va_G) (U : State) : Prop := (va_K D cls (tys D) U ∧ (∀ q ∈ nwC, va_Nw (.castable q.1 q.2) U) ∧ (∀ q ∈ nwN, va_Nc q.1 q.2 U) ∧ (∀ q ∈ nwA, va_AO q U) ∧ (∀ q ∈ nwS, ∃ a, vk_R q.1 q.2.1 q.2.2 a U) ∧ ∀ q ∈ nwD, va_Nw (.declares q) U) ∧ (∀ q ∈ nwF, va_Nw (.fieldLinkNest q.1 q.2.1 q.2.2.1 q.2.2.2.1 q.2.2.2.2.1 q.2.2.2.2.2) U) ∧ (∀ q ∈ nwM, va_Nw (.methodLinkNest q.1 q.2.1 q.2.2.1 q.2.2.2) U)
theorem GK.warm {D : va_G} {s U : State} (hW : s.WarmedH U.vm) (h : GK D s) : GK D U := ⟨⟨va_K.moved hW.alike h.1.1, fun q hq => va_Nw.warmC hW (h.1.2.1 q hq), fun q hq => (h.1.2.2.1 q hq).moved hW.alike, fun q hq => (h.1.2.2.2.1 q hq).moved hW.alike, fun q hq => (h.1.2.2.2.2.1 q hq).imp fun _ z => z.warm hW, fun q hq => va_Nw.warmD hW (h.1.2.2.2.2.2 q hq)⟩, fun q hq => va_Nw.warmF hW (h.2.1 q hq), fun q hq => va_Nw.warmM hW (h.2.2 q hq)⟩
theorem GK.vm {D : va_G} {s U : State} (hW : s.vm = U.vm) (h : GK D s) : GK D U := ⟨⟨va_K.moved (hW ▸ Vm.Alike.refl s.vm) h.1.1, fun q hq => va_Nw.same rfl hW (h.1.2.1 q hq), fun q hq => (h.1.2.2.1 q hq).moved (hW ▸ Vm.Alike.refl s.vm), fun q hq => (h.1.2.2.2.1 q hq).moved (hW ▸ Vm.Alike.refl s.vm), fun q hq => (h.1.2.2.2.2.1 q hq).imp fun _ z => z.same hW.symm, fun q hq => va_Nw.same rfl hW (h.1.2.2.2.2.2 q hq)⟩, fun q hq => va_Nw.same rfl hW (h.2.1 q hq), fun q hq => va_Nw.same rfl hW (h.2.2 q hq)⟩
theorem GK.K {D : va_G} {U : State} (h : GK D U) : va_K D cls (tys D) U := h.1.1
theorem gkC {D : va_G} {U : State} (h : GK D U) (i : Nat) {a b : String} (hi : nwC[i]? = some (a, b)) : va_Nw (.castable a b) U := h.1.2.1 (a, b) (List.mem_of_getElem? hi)
theorem gkN {D : va_G} {U : State} (h : GK D U) (i : Nat) {a b : String} (hi : nwN[i]? = some (a, b)) : va_Nc a b U := h.1.2.2.1 (a, b) (List.mem_of_getElem? hi)
theorem gkA {D : va_G} {U : State} (h : GK D U) (i : Nat) {a : String} (hi : nwA[i]? = some a) : va_AO a U := h.1.2.2.2.1 a (List.mem_of_getElem? hi)
theorem gkS {D : va_G} {U : State} (h : GK D U) (i : Nat) {a b : String} {k : Nat} (hi : nwS[i]? = some (a, k, b)) : ∃ q, vk_R a k b q U := h.1.2.2.2.2.1 (a, k, b) (List.mem_of_getElem? hi)
theorem nF_KeyStage_77 {D : va_G} {U : State} (h : GK D U) : va_Nw (.fieldLinkNest "KeyStage" 77 "KeyStage$Clip" "length" "I" "KeyStage") U := h.2.1 ("KeyStage", 77, "KeyStage$Clip", "length", "I", "KeyStage") (List.mem_of_getElem? (i := 0) rfl)
theorem nF_KeyStage_200 {D : va_G} {U : State} (h : GK D U) : va_Nw (.fieldLinkNest "KeyStage" 200 "KeyStage$Strip" "p" "I" "KeyStage") U := h.2.1 ("KeyStage", 200, "KeyStage$Strip", "p", "I", "KeyStage") (List.mem_of_getElem? (i := 1) rfl)
theorem nF_KeyStage_203 {D : va_G} {U : State} (h : GK D U) : va_Nw (.fieldLinkNest "KeyStage" 203 "KeyStage$Strip" "q" "I" "KeyStage") U := h.2.1 ("KeyStage", 203, "KeyStage$Strip", "q", "I", "KeyStage") (List.mem_of_getElem? (i := 2) rfl)
theorem nF_KeyStage_211 {D : va_G} {U : State} (h : GK D U) : va_Nw (.fieldLinkNest "KeyStage" 211 "KeyStage$Strip" "layer" "I" "KeyStage") U := h.2.1 ("KeyStage", 211, "KeyStage$Strip", "layer", "I", "KeyStage") (List.mem_of_getElem? (i := 3) rfl)
theorem nF_KeyStage_214 {D : va_G} {U : State} (h : GK D U) : va_Nw (.fieldLinkNest "KeyStage" 214 "KeyStage$Strip" "weight" "I" "KeyStage") U := h.2.1 ("KeyStage", 214, "KeyStage$Strip", "weight", "I", "KeyStage") (List.mem_of_getElem? (i := 4) rfl)
theorem nF_KeyStage_217 {D : va_G} {U : State} (h : GK D U) : va_Nw (.fieldLinkNest "KeyStage" 217 "KeyStage$Strip" "isAdded" "Z" "KeyStage") U := h.2.1 ("KeyStage", 217, "KeyStage$Strip", "isAdded", "Z", "KeyStage") (List.mem_of_getElem? (i := 5) rfl)
theorem nF_KeyStage_221 {D : va_G} {U : State} (h : GK D U) : va_Nw (.fieldLinkNest "KeyStage" 221 "KeyStage$Strip" "isHeld" "Z" "KeyStage") U := h.2.1 ("KeyStage", 221, "KeyStage$Strip", "isHeld", "Z", "KeyStage") (List.mem_of_getElem? (i := 6) rfl)
theorem nF_KeyStage_226 {D : va_G} {U : State} (h : GK D U) : va_Nw (.fieldLinkNest "KeyStage" 226 "KeyStage$Strip" "fadeIn" "I" "KeyStage") U := h.2.1 ("KeyStage", 226, "KeyStage$Strip", "fadeIn", "I", "KeyStage") (List.mem_of_getElem? (i := 7) rfl)
theorem nF_KeyStage_229 {D : va_G} {U : State} (h : GK D U) : va_Nw (.fieldLinkNest "KeyStage" 229 "KeyStage$Strip" "fadeOut" "I" "KeyStage") U := h.2.1 ("KeyStage", 229, "KeyStage$Strip", "fadeOut", "I", "KeyStage") (List.mem_of_getElem? (i := 8) rfl)
theorem nF_KeyStage_274 {D : va_G} {U : State} (h : GK D U) : va_Nw (.fieldLinkNest "KeyStage" 274 "KeyStage$Notes" "count" "I" "KeyStage") U := h.2.1 ("KeyStage", 274, "KeyStage$Notes", "count", "I", "KeyStage") (List.mem_of_getElem? (i := 9) rfl)
theorem nF_KeyStage_304 {D : va_G} {U : State} (h : GK D U) : va_Nw (.fieldLinkNest "KeyStage" 304 "KeyStage$Strip" "clip" "LKeyStage$Clip;" "KeyStage") U := h.2.1 ("KeyStage", 304, "KeyStage$Strip", "clip", "LKeyStage$Clip;", "KeyStage") (List.mem_of_getElem? (i := 10) rfl)
theorem nF_KeyStage_308 {D : va_G} {U : State} (h : GK D U) : va_Nw (.fieldLinkNest "KeyStage" 308 "KeyStage$Strip" "rounds" "I" "KeyStage") U := h.2.1 ("KeyStage", 308, "KeyStage$Strip", "rounds", "I", "KeyStage") (List.mem_of_getElem? (i := 11) rfl)
theorem nF_KeyStage_314 {D : va_G} {U : State} (h : GK D U) : va_Nw (.fieldLinkNest "KeyStage" 314 "KeyStage$Clip" "cueTimes" "LKeyStage$Row;" "KeyStage") U := h.2.1 ("KeyStage", 314, "KeyStage$Clip", "cueTimes", "LKeyStage$Row;", "KeyStage") (List.mem_of_getElem? (i := 12) rfl)
theorem nF_KeyStage_320 {D : va_G} {U : State} (h : GK D U) : va_Nw (.fieldLinkNest "KeyStage" 320 "KeyStage$Clip" "cueNumbers" "LKeyStage$Row;" "KeyStage") U := h.2.1 ("KeyStage", 320, "KeyStage$Clip", "cueNumbers", "LKeyStage$Row;", "KeyStage") (List.mem_of_getElem? (i := 13) rfl)
theorem nF_KeyStage_Strip_57 {D : va_G} {U : State} (h : GK D U) : va_Nw (.fieldLinkNest "KeyStage$Strip" 57 "KeyStage$Clip" "length" "I" "KeyStage") U := h.2.1 ("KeyStage$Strip", 57, "KeyStage$Clip", "length", "I", "KeyStage") (List.mem_of_getElem? (i := 14) rfl)
theorem nM_KeyStage_36 {D : va_G} {U : State} (h : GK D U) : va_Nw (.methodLinkNest "KeyStage" 36 ⟨"KeyStage$Notes", "<init>", "()V"⟩ "KeyStage") U := h.2.2 ("KeyStage", 36, ⟨"KeyStage$Notes", "<init>", "()V"⟩, "KeyStage") (List.mem_of_getElem? (i := 0) rfl)
theorem nM_KeyStage_Clip_33 {D : va_G} {U : State} (h : GK D U) : va_Nw (.methodLinkNest "KeyStage$Clip" 33 ⟨"KeyStage$Track", "<init>", "()V"⟩ "KeyStage") U := h.2.2 ("KeyStage$Clip", 33, ⟨"KeyStage$Track", "<init>", "()V"⟩, "KeyStage") (List.mem_of_getElem? (i := 1) rfl)
theorem nM_KeyStage_Strip_62 {D : va_G} {U : State} (h : GK D U) : va_Nw (.methodLinkNest "KeyStage$Strip" 62 ⟨"KeyStage", "roundedUp", "(II)I"⟩ "KeyStage") U := h.2.2 ("KeyStage$Strip", 62, ⟨"KeyStage", "roundedUp", "(II)I"⟩, "KeyStage") (List.mem_of_getElem? (i := 2) rfl)
theorem nM_KeyStage_Strip_73 {D : va_G} {U : State} (h : GK D U) : va_Nw (.methodLinkNest "KeyStage$Strip" 73 ⟨"KeyStage", "cut", "(II)I"⟩ "KeyStage") U := h.2.2 ("KeyStage$Strip", 73, ⟨"KeyStage", "cut", "(II)I"⟩, "KeyStage") (List.mem_of_getElem? (i := 3) rfl)
theorem nM_KeyStage_Strip_85 {D : va_G} {U : State} (h : GK D U) : va_Nw (.methodLinkNest "KeyStage$Strip" 85 ⟨"KeyStage", "rounded", "(JJ)I"⟩ "KeyStage") U := h.2.2 ("KeyStage$Strip", 85, ⟨"KeyStage", "rounded", "(JJ)I"⟩, "KeyStage") (List.mem_of_getElem? (i := 4) rfl)
theorem nM_KeyStage_Track_55 {D : va_G} {U : State} (h : GK D U) : va_Nw (.methodLinkNest "KeyStage$Track" 55 ⟨"KeyStage", "rounded", "(JJ)I"⟩ "KeyStage") U := h.2.2 ("KeyStage$Track", 55, ⟨"KeyStage", "rounded", "(JJ)I"⟩, "KeyStage") (List.mem_of_getElem? (i := 5) rfl)
abbrev oO (a ci : Nat) (fs : List Value) : Nat × va_E := (a, .inr (ci, fs))
abbrev aI (D : va_G) (a n : Nat) (f : Nat → Int32) : Nat × va_E := (a, .inl (D.1 100, n, .inl f))
abbrev aL (D : va_G) (a n : Nat) (f : Nat → Int64) : Nat × va_E := (a, .inl (D.1 101, n, .inr (.inl f)))
abbrev aD (D : va_G) (a n : Nat) (f : Nat → UInt64) : Nat × va_E := (a, .inl (D.1 102, n, .inr (.inr (.inr (.inl f)))))
abbrev aT (D : va_G) (a n : Nat) (f : Nat → Option Nat) : Nat × va_E := (a, .inl (D.1 103, n, .inr (.inr (.inr (.inr f)))))
abbrev aO (D : va_G) (a n : Nat) (f : Nat → Option Nat) : Nat × va_E := (a, .inl (D.1 104, n, .inr (.inr (.inr (.inr f)))))
/-- a method's words: its code, and all that the law needs -/
def ws_ (y : MethodName) (c : ByteArray) (n : Nat) (ret : Option FieldType) : List Cond := Cond.code y c n ret :: wsL_law
theorem gd_ {w : Cond} (h : w ∈ wsL_law) : w ∈ wsL_law ∧ ((w.onTables && w.keeps) = true ∨ ∃ ty, w = .arrayClass ty) := ⟨h, good_of_word (List.all_eq_true.mp wsL_good w h)⟩
theorem gW {y : MethodName} {c : ByteArray} {n : Nat} {ret : Option FieldType} (h : Cond.code y c n ret ∈ wsL_law) : GoodIn wsL_law (ws_ y c n ret) := fun w hw => by
  rcases List.mem_cons.mp hw with rfl | hw
  · exact gd_ h
  · exact gd_ hw
theorem gV {own C : String} {idx : Nat} {y : MethodName} {c : ByteArray} {n : Nat} {ret : Option FieldType} (h1 : Cond.methodLink own idx y ∈ wsL_law) (h2 : Cond.instanceMethod y ∈ wsL_law) (h3 : Cond.selects C y y ∈ wsL_law) (h4 : Cond.initialized C ∈ wsL_law) (h5 : Cond.code y c n ret ∈ wsL_law) : GoodIn wsL_law (wsV own idx C y (ws_ y c n ret)) := fun w hw => by
  rcases List.mem_append.mp hw with hw | hw
  · simp only [List.mem_cons, List.not_mem_nil, or_false] at hw
    rcases hw with rfl | rfl | rfl | rfl
    · exact gd_ h1
    · exact gd_ h2
    · exact gd_ h3
    · exact gd_ h4
  · exact gW h5 w hw
theorem gS {own : String} {idx : Nat} {y : MethodName} {c : ByteArray} {n : Nat} {ret : Option FieldType} (h1 : Cond.methodLink own idx y ∈ wsL_law) (h2 : Cond.static y ∈ wsL_law) (h4 : Cond.initialized y.cls ∈ wsL_law) (h5 : Cond.code y c n ret ∈ wsL_law) : GoodIn wsL_law (va_wsS own idx y (ws_ y c n ret)) := fun w hw => by
  rcases List.mem_append.mp hw with hw | hw
  · simp only [List.mem_cons, List.not_mem_nil, or_false] at hw
    rcases hw with rfl | rfl | rfl
    · exact gd_ h1
    · exact gd_ h2
    · exact gd_ h4
  · exact gW h5 w hw
