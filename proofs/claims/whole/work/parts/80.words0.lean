theorem inTbl {ws : List Cond} (ps : List Nat) (h : ws = ps.filterMap (fun i => lw_tbl[i]?)) : ∀ w ∈ ws, w ∈ lw_tbl := fun w hw => by
  rw [h] at hw
  obtain ⟨i, -, hi⟩ := List.mem_filterMap.mp hw
  exact List.mem_of_getElem? hi
set_option maxRecDepth 20000 in
theorem inT_1 : ∀ w ∈ wsL_law0_r1, w ∈ lw_tbl := inTbl [62, 63, 40, 952, 953, 46, 1233, 1234, 64, 65, 66, 67, 68, 69, 70, 71, 43, 143, 144, 96, 97, 44, 145, 146] (by decide +kernel)
