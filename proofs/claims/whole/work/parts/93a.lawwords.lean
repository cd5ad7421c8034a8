/-! The law's words lie in the tables. -/
set_option maxRecDepth 20000 in
theorem lwp_1 : ∀ w ∈ wsL_law0_r1, w ∈ lw_tbl := fun w h => (goodIn_p wsL_law0_r1 [74, 77] rfl (by decide +kernel) w h).1
set_option maxRecDepth 20000 in
theorem lwp_2 : ∀ w ∈ wsL_law0_r2, w ∈ lw_tbl := fun w h => (goodIn_p wsL_law0_r2 [82, 102] rfl (by decide +kernel) w h).1
set_option maxRecDepth 20000 in
theorem lwp_3 : ∀ w ∈ wsL_law0_r3, w ∈ lw_tbl := fun w h => (goodIn_p wsL_law0_r3 [158, 652] rfl (by decide +kernel) w h).1
set_option maxRecDepth 20000 in
theorem lwp_4 : ∀ w ∈ wsL_law0_r4, w ∈ lw_tbl := fun w h => (goodIn_p wsL_law0_r4 [340] rfl (by decide +kernel) w h).1
set_option maxRecDepth 20000 in
theorem lwp_5 : ∀ w ∈ wsL_law0_r5, w ∈ lw_tbl := fun w h => (goodIn_p wsL_law0_r5 [344, 347, 350, 422, 442] rfl (by decide +kernel) w h).1
set_option maxRecDepth 20000 in
theorem lwp_6 : ∀ w ∈ wsL_law0_r6, w ∈ lw_tbl := fun w h => (goodIn_p wsL_law0_r6 [725, 728, 731, 735, 721] rfl (by decide +kernel) w h).1
set_option maxRecDepth 20000 in
theorem lwp_7 : ∀ w ∈ wsL_law0_r7, w ∈ lw_tbl := fun w h => (goodIn_p wsL_law0_r7 [450, 739, 458, 462] rfl (by decide +kernel) w h).1
