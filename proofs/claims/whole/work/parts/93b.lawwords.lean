/-! The law's words lie in the tables. -/
set_option maxRecDepth 20000 in
theorem lwp_8 : ∀ w ∈ wsL_law0_r8, w ∈ lw_tbl := fun w h => (goodIn_p wsL_law0_r8 [466, 470, 743, 747, 751, 755] rfl (by decide +kernel) w h).1
set_option maxRecDepth 20000 in
theorem lwp_9 : ∀ w ∈ wsL_law0_r9, w ∈ lw_tbl := fun w h => (goodIn_p wsL_law0_r9 [493, 759, 500, 504] rfl (by decide +kernel) w h).1
set_option maxRecDepth 20000 in
theorem lwp_10 : ∀ w ∈ wsL_law0_r10, w ∈ lw_tbl := fun w h => (goodIn_p wsL_law0_r10 [232, 507, 763, 767, 514, 771] rfl (by decide +kernel) w h).1
set_option maxRecDepth 20000 in
theorem lwp_11 : ∀ w ∈ wsL_law0_r11, w ∈ lw_tbl := fun w h => (goodIn_p wsL_law0_r11 [521, 775, 528, 236] rfl (by decide +kernel) w h).1
set_option maxRecDepth 20000 in
theorem lwp_12 : ∀ w ∈ wsL_law0_r12, w ∈ lw_tbl := fun w h => (goodIn_p wsL_law0_r12 [240, 243, 246, 779, 783, 787, 790] rfl (by decide +kernel) w h).1
set_option maxRecDepth 20000 in
theorem lwp_13 : ∀ w ∈ wsL_law0_r13, w ∈ lw_tbl := fun w h => (goodIn_p wsL_law0_r13 [208, 212, 216, 220, 225] rfl (by decide +kernel) w h).1
set_option maxRecDepth 20000 in
theorem lwp_14 : ∀ w ∈ wsL_law0_r14, w ∈ lw_tbl := fun w h => (goodIn_p wsL_law0_r14 [229, 250, 254, 258, 262, 266] rfl (by decide +kernel) w h).1
