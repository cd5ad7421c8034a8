/-! The law's words lie in the tables. -/
set_option maxRecDepth 20000 in
theorem lwp_8 : ∀ w ∈ wsL_law0_r8, w ∈ lw_tbl := fun w h => (goodIn_p wsL_law0_r8 [464, 737, 741, 745, 749] rfl (by decide +kernel) w h).1
set_option maxRecDepth 20000 in
theorem lwp_9 : ∀ w ∈ wsL_law0_r9, w ∈ lw_tbl := fun w h => (goodIn_p wsL_law0_r9 [487, 753, 494, 498, 226] rfl (by decide +kernel) w h).1
set_option maxRecDepth 20000 in
theorem lwp_10 : ∀ w ∈ wsL_law0_r10, w ∈ lw_tbl := fun w h => (goodIn_p wsL_law0_r10 [501, 757, 761, 508, 765] rfl (by decide +kernel) w h).1
set_option maxRecDepth 20000 in
theorem lwp_11 : ∀ w ∈ wsL_law0_r11, w ∈ lw_tbl := fun w h => (goodIn_p wsL_law0_r11 [515, 769, 522, 230, 234] rfl (by decide +kernel) w h).1
set_option maxRecDepth 20000 in
theorem lwp_12 : ∀ w ∈ wsL_law0_r12, w ∈ lw_tbl := fun w h => (goodIn_p wsL_law0_r12 [237, 240, 773, 777, 781, 784] rfl (by decide +kernel) w h).1
set_option maxRecDepth 20000 in
theorem lwp_13 : ∀ w ∈ wsL_law0_r13, w ∈ lw_tbl := fun w h => (goodIn_p wsL_law0_r13 [202, 206, 210, 214, 219, 223] rfl (by decide +kernel) w h).1
set_option maxRecDepth 20000 in
theorem lwp_14 : ∀ w ∈ wsL_law0_r14, w ∈ lw_tbl := fun w h => (goodIn_p wsL_law0_r14 [244, 248, 252, 256, 260, 264] rfl (by decide +kernel) w h).1
