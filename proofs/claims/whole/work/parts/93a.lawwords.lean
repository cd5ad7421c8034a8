/-! The law's words lie in the tables. -/
set_option maxRecDepth 20000 in
theorem lwp_1 : ∀ w ∈ wsL_law0_r1, w ∈ lw_tbl := fun w h => (goodIn_p wsL_law0_r1 [74, 77] rfl (by decide +kernel) w h).1
set_option maxRecDepth 20000 in
theorem lwp_2 : ∀ w ∈ wsL_law0_r2, w ∈ lw_tbl := fun w h => (goodIn_p wsL_law0_r2 [82, 102] rfl (by decide +kernel) w h).1
set_option maxRecDepth 20000 in
theorem lwp_3 : ∀ w ∈ wsL_law0_r3, w ∈ lw_tbl := fun w h => (goodIn_p wsL_law0_r3 [152, 646] rfl (by decide +kernel) w h).1
set_option maxRecDepth 20000 in
theorem lwp_4 : ∀ w ∈ wsL_law0_r4, w ∈ lw_tbl := fun w h => (goodIn_p wsL_law0_r4 [334] rfl (by decide +kernel) w h).1
set_option maxRecDepth 20000 in
theorem lwp_5 : ∀ w ∈ wsL_law0_r5, w ∈ lw_tbl := fun w h => (goodIn_p wsL_law0_r5 [338, 341, 344, 416, 436, 719] rfl (by decide +kernel) w h).1
set_option maxRecDepth 20000 in
theorem lwp_6 : ∀ w ∈ wsL_law0_r6, w ∈ lw_tbl := fun w h => (goodIn_p wsL_law0_r6 [722, 725, 729, 715, 444] rfl (by decide +kernel) w h).1
set_option maxRecDepth 20000 in
theorem lwp_7 : ∀ w ∈ wsL_law0_r7, w ∈ lw_tbl := fun w h => (goodIn_p wsL_law0_r7 [733, 452, 456, 460] rfl (by decide +kernel) w h).1
