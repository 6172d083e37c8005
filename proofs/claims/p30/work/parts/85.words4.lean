theorem inL_X5 : ∀ w ∈ wsX50, w ∈ lw_tbl := inTbl [123, 125, 127, 129, 131] (by decide +kernel)
theorem inL_Jx4a65c : ∀ w ∈ wsJx4a65c0, w ∈ lw_tbl := inTbl [68, 64, 66] (by decide +kernel)
theorem inL_X2 : ∀ w ∈ wsX20, w ∈ lw_tbl := inTbl [79, 81] (by decide +kernel)
theorem inL_X1 : ∀ w ∈ wsX10, w ∈ lw_tbl := inTbl [107, 109, 111, 113, 115] (by decide +kernel)
theorem inL_X0 : ∀ w ∈ wsX00, w ∈ lw_tbl := inTbl [588, 590, 592, 594] (by decide +kernel)
theorem inL_X4 : ∀ w ∈ wsX40, w ∈ lw_tbl := inTbl [573, 575, 577] (by decide +kernel)
theorem inL_X3 : ∀ w ∈ wsX30, w ∈ lw_tbl := inTbl [700, 702, 704, 706, 708, 710, 712, 714, 716, 718, 720, 722, 724] (by decide +kernel)
set_option maxRecDepth 100000 in
theorem wsL_law_in0 : ∀ w ∈ wsL_law0, w ∈ lw_tbl := by
  delta wsL_law0
  exact List.forall_mem_append.mpr ⟨List.forall_mem_append.mpr ⟨List.forall_mem_append.mpr ⟨List.forall_mem_append.mpr ⟨List.forall_mem_append.mpr ⟨List.forall_mem_append.mpr ⟨List.forall_mem_append.mpr ⟨List.forall_mem_append.mpr ⟨List.forall_mem_append.mpr ⟨inT_1, List.forall_mem_append.mpr ⟨inT_2, List.forall_mem_append.mpr ⟨inT_3, List.forall_mem_append.mpr ⟨inT_4, List.forall_mem_append.mpr ⟨inT_5, List.forall_mem_append.mpr ⟨inT_6, List.forall_mem_append.mpr ⟨inT_7, List.forall_mem_append.mpr ⟨inT_8, List.forall_mem_append.mpr ⟨inT_9, List.forall_mem_append.mpr ⟨inT_10, List.forall_mem_append.mpr ⟨inT_11, List.forall_mem_append.mpr ⟨inT_12, List.forall_mem_append.mpr ⟨inT_13, List.forall_mem_append.mpr ⟨inT_14, List.forall_mem_append.mpr ⟨inT_15, List.forall_mem_append.mpr ⟨inT_16, List.forall_mem_append.mpr ⟨inT_17, List.forall_mem_append.mpr ⟨inT_18, List.forall_mem_append.mpr ⟨inT_19, List.forall_mem_append.mpr ⟨inT_20, inT_21⟩⟩⟩⟩⟩⟩⟩⟩⟩⟩⟩⟩⟩⟩⟩⟩⟩⟩⟩⟩, inL_X5⟩, inL_Jx4a65c⟩, inL_X2⟩, inL_X1⟩, inL_X0⟩, inL_X4⟩, inL_X3⟩, fun _ h => absurd h List.not_mem_nil⟩
theorem wsL_law_x0 : ∀ w ∈ (vx_atS RX5 49 "java/lang/IllegalArgumentException" ["java/lang/RuntimeException", "java/lang/Exception"]).filter goodWord, w ∈ lw_tbl := by decide +kernel
theorem wsL_law_x1 : ∀ w ∈ (vx_atS RX5 60 "java/lang/IllegalStateException" ["java/lang/RuntimeException", "java/lang/Exception"]).filter goodWord, w ∈ lw_tbl := by decide +kernel
theorem wsL_law_x2 : ∀ w ∈ (vx_atS RX5 76 "java/lang/IndexOutOfBoundsException" ["java/lang/RuntimeException", "java/lang/Exception"]).filter goodWord, w ∈ lw_tbl := by decide +kernel
theorem wsL_law_in : ∀ w ∈ wsL_law, w ∈ lw_tbl := fun w h => (List.mem_append.mp h).elim (fun h => (List.mem_append.mp h).elim (fun h => (List.mem_append.mp h).elim (fun h => wsL_law_in0 w h) (fun h => wsL_law_x0 w h)) (fun h => wsL_law_x1 w h)) (fun h => wsL_law_x2 w h)
