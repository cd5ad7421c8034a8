/-! The law's words lie in the tables. -/
set_option maxRecDepth 20000 in
theorem lwp_15 : ∀ w ∈ wsL_law0_r15, w ∈ lw_tbl := fun w h => (goodIn_p wsL_law0_r15 [268, 272, 278, 282, 788] rfl (by decide +kernel) w h).1
set_option maxRecDepth 20000 in
theorem lwp_16 : ∀ w ∈ wsL_law0_r16, w ∈ lw_tbl := fun w h => (goodIn_p wsL_law0_r16 [792, 796, 800, 804, 808, 813] rfl (by decide +kernel) w h).1
set_option maxRecDepth 20000 in
theorem lwp_17 : ∀ w ∈ wsL_law0_r17, w ∈ lw_tbl := fun w h => (goodIn_p wsL_law0_r17 [817, 821, 529, 533, 538] rfl (by decide +kernel) w h).1
set_option maxRecDepth 20000 in
theorem lwp_18 : ∀ w ∈ wsL_law0_r18, w ∈ lw_tbl := fun w h => (goodIn_p wsL_law0_r18 [845, 849, 854, 858, 862] rfl (by decide +kernel) w h).1
set_option maxRecDepth 20000 in
theorem lwp_19 : ∀ w ∈ wsL_law0_r19, w ∈ lw_tbl := fun w h => (goodIn_p wsL_law0_r19 [545, 825, 829, 833, 552] rfl (by decide +kernel) w h).1
set_option maxRecDepth 20000 in
theorem lwp_20 : ∀ w ∈ wsL_law0_r20, w ∈ lw_tbl := fun w h => (goodIn_p wsL_law0_r20 [837, 559, 841, 566] rfl (by decide +kernel) w h).1
set_option maxRecDepth 20000 in
theorem lwp_21 : ∀ w ∈ wsL_law0_r21, w ∈ lw_tbl := fun w h => (goodIn_p wsL_law0_r21 [294, 290, 866, 870, 573] rfl (by decide +kernel) w h).1
