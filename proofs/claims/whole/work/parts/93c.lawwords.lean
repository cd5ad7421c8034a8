/-! The law's words lie in the tables. -/
set_option maxRecDepth 20000 in
theorem lwp_15 : ∀ w ∈ wsL_law0_r15, w ∈ lw_tbl := fun w h => (goodIn_p wsL_law0_r15 [270, 274, 278, 284, 288, 794] rfl (by decide +kernel) w h).1
set_option maxRecDepth 20000 in
theorem lwp_16 : ∀ w ∈ wsL_law0_r16, w ∈ lw_tbl := fun w h => (goodIn_p wsL_law0_r16 [798, 802, 806, 810, 814, 819] rfl (by decide +kernel) w h).1
set_option maxRecDepth 20000 in
theorem lwp_17 : ∀ w ∈ wsL_law0_r17, w ∈ lw_tbl := fun w h => (goodIn_p wsL_law0_r17 [823, 827, 535, 539, 544] rfl (by decide +kernel) w h).1
set_option maxRecDepth 20000 in
theorem lwp_18 : ∀ w ∈ wsL_law0_r18, w ∈ lw_tbl := fun w h => (goodIn_p wsL_law0_r18 [851, 855, 860, 864, 868] rfl (by decide +kernel) w h).1
set_option maxRecDepth 20000 in
theorem lwp_19 : ∀ w ∈ wsL_law0_r19, w ∈ lw_tbl := fun w h => (goodIn_p wsL_law0_r19 [551, 831, 835, 839, 558] rfl (by decide +kernel) w h).1
set_option maxRecDepth 20000 in
theorem lwp_20 : ∀ w ∈ wsL_law0_r20, w ∈ lw_tbl := fun w h => (goodIn_p wsL_law0_r20 [843, 565, 847, 572] rfl (by decide +kernel) w h).1
set_option maxRecDepth 20000 in
theorem lwp_21 : ∀ w ∈ wsL_law0_r21, w ∈ lw_tbl := fun w h => (goodIn_p wsL_law0_r21 [300, 296, 872, 876, 579] rfl (by decide +kernel) w h).1
