set_option maxRecDepth 20000 in
theorem inT_2 : ∀ w ∈ wsL_law0_r2, w ∈ lw_tbl := inTbl [119, 71, 72, 20, 120, 121, 93, 94, 21, 122, 47, 48, 49, 57, 59, 50, 51, 18, 52, 61, 53, 54, 17, 55] (by decide +kernel)
set_option maxRecDepth 20000 in
theorem inT_3 : ∀ w ∈ wsL_law0_r3, w ∈ lw_tbl := inTbl [56, 73, 74, 75, 76, 77, 85, 86, 87, 88, 78, 89, 90, 91, 92, 96, 97, 98, 99, 101, 102, 103, 104, 100] (by decide +kernel)
def rowA_4 : List Cond := [Cond.methodLink RL 55 yL_stage, Cond.static yL_stage, Cond.initialized RL]
def rowB_4 : List Cond := [Cond.methodLink RL 25 arraycopyName, Cond.native arraycopyName, Cond.static arraycopyName, Cond.initialized "java/lang/System", Cond.methodLink RL 9 yL_cell, Cond.static yL_cell, Cond.code yL_cell cL_cell 2 (some .int), Cond.constant RL 8 (790386105), Cond.methodLink RL 15 yL_below, Cond.static yL_below, Cond.code yL_below cL_below 2 (some .int), Cond.constant RL 7 (2147483647), Cond.methodLink RL 19 yX5_addClip, Cond.instanceMethod yX5_addClip, Cond.selects RX5 yX5_addClip yX5_addClip, Cond.code yX5_addClip cX5_addClip 2 (some .int), Cond.classLink RX5 45 "java/lang/IllegalArgumentException", Cond.initialized "java/lang/IllegalArgumentException", Cond.classLink RX5 56 "java/lang/IllegalStateException", Cond.initialized "java/lang/IllegalStateException"]
set_option maxRecDepth 100000 in
theorem rowH_4 : lw_tbl[548]? = some (Cond.code yL_stage cL_stage 13 (some .int)) := by rfl
set_option maxRecDepth 20000 in
theorem inT_4 : ∀ w ∈ wsL_law0_r4, w ∈ lw_tbl := by
  have e : wsL_law0_r4 = rowA_4 ++ (Cond.code yL_stage cL_stage 13 (some .int) :: rowB_4) := rfl
  rw [e]
  exact List.forall_mem_append.mpr ⟨inTbl [546, 547, 15] (by decide +kernel), List.forall_mem_cons.mpr ⟨List.mem_of_getElem? rowH_4, inTbl [648, 406, 405, 32, 542, 543, 544, 545, 538, 539, 540, 541, 549, 550, 551, 552, 268, 25, 284, 26] (by decide +kernel)⟩⟩
set_option maxRecDepth 20000 in
theorem inT_5 : ∀ w ∈ wsL_law0_r5, w ∈ lw_tbl := inTbl [160, 555, 27, 248, 249, 250, 142, 143, 144, 145, 60, 556, 557, 558, 559, 560, 584, 586, 580, 562, 583, 312, 28, 561] (by decide +kernel)
set_option maxRecDepth 20000 in
theorem inT_6 : ∀ w ∈ wsL_law0_r6, w ∈ lw_tbl := inTbl [565, 566, 567, 568, 570, 571, 572, 569, 597, 598, 599, 600, 62, 63, 601, 603, 12, 604, 605, 607, 13, 608, 609, 611] (by decide +kernel)
set_option maxRecDepth 20000 in
theorem inT_7 : ∀ w ∈ wsL_law0_r7, w ∈ lw_tbl := inTbl [14, 612, 646, 647, 613, 614, 29, 615, 616, 617, 618, 619, 620, 621, 622, 31, 623, 624, 756, 625, 637, 638, 639, 640] (by decide +kernel)
set_option maxRecDepth 20000 in
theorem inT_8 : ∀ w ∈ wsL_law0_r8, w ∈ lw_tbl := inTbl [641, 643, 644, 645, 649, 650, 651, 652, 653, 654, 655, 168, 35, 138, 140, 0, 141, 160, 146, 147, 148, 149, 150, 151] (by decide +kernel)
