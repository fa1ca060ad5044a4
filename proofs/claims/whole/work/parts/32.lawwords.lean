/-! The law's words among the tables' (laid by wip/lawwords.py) -/
set_option maxRecDepth 20000 in
theorem wsL_law_r14_in : ∀ w ∈ wsL_law_r14, w ∈ lw_tbl := fun w h => (goodIn_p wsL_law_r14 [300, 304, 309, 319] (by decide +kernel) (by decide +kernel) w h).1
set_option maxRecDepth 20000 in
theorem wsL_law_r15_in : ∀ w ∈ wsL_law_r15, w ∈ lw_tbl := fun w h => (goodIn_p wsL_law_r15 [566, 572, 324] (by decide +kernel) (by decide +kernel) w h).1
set_option maxRecDepth 20000 in
theorem wsL_law_r16_in : ∀ w ∈ wsL_law_r16, w ∈ lw_tbl := fun w h => (goodIn_p wsL_law_r16 [330, 585, 334, 591, 338] (by decide +kernel) (by decide +kernel) w h).1
set_option maxRecDepth 20000 in
theorem wsL_law_r17_in : ∀ w ∈ wsL_law_r17, w ∈ lw_tbl := fun w h => (goodIn_p wsL_law_r17 [342, 595, 347, 600] (by decide +kernel) (by decide +kernel) w h).1
set_option maxRecDepth 20000 in
theorem wsL_law_r18_in : ∀ w ∈ wsL_law_r18, w ∈ lw_tbl := fun w h => (goodIn_p wsL_law_r18 [363, 604, 503, 351] (by decide +kernel) (by decide +kernel) w h).1
set_option maxRecDepth 20000 in
theorem wsL_law_r19_in : ∀ w ∈ wsL_law_r19, w ∈ lw_tbl := fun w h => (goodIn_p wsL_law_r19 [608] (by decide +kernel) (by decide +kernel) w h).1
set_option maxRecDepth 20000 in
theorem wsX30_in : ∀ w ∈ wsX30, w ∈ lw_tbl := by decide +kernel
set_option maxRecDepth 20000 in
theorem wsX40_in : ∀ w ∈ wsX40, w ∈ lw_tbl := by decide +kernel
set_option maxRecDepth 20000 in
theorem wsX10_in : ∀ w ∈ wsX10, w ∈ lw_tbl := by decide +kernel
set_option maxRecDepth 20000 in
theorem wsX00_in : ∀ w ∈ wsX00, w ∈ lw_tbl := by decide +kernel
set_option maxRecDepth 20000 in
theorem wsX20_in : ∀ w ∈ wsX20, w ∈ lw_tbl := by decide +kernel
set_option maxRecDepth 20000 in
theorem wsJx000600_in : ∀ w ∈ wsJx000600, w ∈ lw_tbl := by decide +kernel
theorem wsL_law_in : ∀ w ∈ wsL_law, w ∈ lw_tbl := fun w h => by
  unfold wsL_law at h
  rw [List.append_nil] at h
  exact (List.mem_append.mp h).elim (fun h => (List.mem_append.mp h).elim (fun h => (List.mem_append.mp h).elim (fun h => (List.mem_append.mp h).elim (fun h => (List.mem_append.mp h).elim (fun h => (List.mem_append.mp h).elim (fun h => (List.mem_append.mp h).elim (wsL_law_r1_in w) (fun h => (List.mem_append.mp h).elim (wsL_law_r2_in w) (fun h => (List.mem_append.mp h).elim (wsL_law_r3_in w) (fun h => (List.mem_append.mp h).elim (wsL_law_r4_in w) (fun h => (List.mem_append.mp h).elim (wsL_law_r5_in w) (fun h => (List.mem_append.mp h).elim (wsL_law_r6_in w) (fun h => (List.mem_append.mp h).elim (wsL_law_r7_in w) (fun h => (List.mem_append.mp h).elim (wsL_law_r8_in w) (fun h => (List.mem_append.mp h).elim (wsL_law_r9_in w) (fun h => (List.mem_append.mp h).elim (wsL_law_r10_in w) (fun h => (List.mem_append.mp h).elim (wsL_law_r11_in w) (fun h => (List.mem_append.mp h).elim (wsL_law_r12_in w) (fun h => (List.mem_append.mp h).elim (wsL_law_r13_in w) (fun h => (List.mem_append.mp h).elim (wsL_law_r14_in w) (fun h => (List.mem_append.mp h).elim (wsL_law_r15_in w) (fun h => (List.mem_append.mp h).elim (wsL_law_r16_in w) (fun h => (List.mem_append.mp h).elim (wsL_law_r17_in w) (fun h => (List.mem_append.mp h).elim (wsL_law_r18_in w) (fun h => wsL_law_r19_in w h))))))))))))))))))) (wsX30_in w)) (wsX40_in w)) (wsX10_in w)) (wsX00_in w)) (wsX20_in w)) (wsJx000600_in w)
theorem inX0 : ∀ w ∈ wsX00, w ∈ lw_tbl := fun w h => wsL_law_in w (inlX0 w h)
theorem inX1 : ∀ w ∈ wsX10, w ∈ lw_tbl := fun w h => wsL_law_in w (inlX1 w h)
theorem inX2 : ∀ w ∈ wsX20, w ∈ lw_tbl := fun w h => wsL_law_in w (inlX2 w h)
theorem inX3 : ∀ w ∈ wsX30, w ∈ lw_tbl := fun w h => wsL_law_in w (inlX3 w h)
theorem inX4 : ∀ w ∈ wsX40, w ∈ lw_tbl := fun w h => wsL_law_in w (inlX4 w h)
theorem inJx00060 : ∀ w ∈ wsJx000600, w ∈ lw_tbl := fun w h => wsL_law_in w (inlJx00060 w h)
