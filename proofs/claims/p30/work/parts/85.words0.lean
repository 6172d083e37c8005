theorem inTbl {ws : List Cond} (ps : List Nat) (h : ws = ps.filterMap (fun i => lw_tbl[i]?)) : ∀ w ∈ ws, w ∈ lw_tbl := fun w hw => by
  rw [h] at hw
  obtain ⟨i, -, hi⟩ := List.mem_filterMap.mp hw
  exact List.mem_of_getElem? hi
set_option maxRecDepth 20000 in
theorem inT_1 : ∀ w ∈ wsL_law0_r1, w ∈ lw_tbl := inTbl [37, 38, 16, 84, 739, 740, 738, 481, 30, 482, 737, 438, 439, 741, 39, 40, 41, 42, 43, 44, 45, 46, 19, 118] (by decide +kernel)
