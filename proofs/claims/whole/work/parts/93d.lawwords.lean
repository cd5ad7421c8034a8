/-! The law's words lie in the tables. -/
set_option maxRecDepth 20000 in
theorem lwp_22 : ∀ w ∈ wsL_law0_r22, w ∈ lw_tbl := fun w h => (goodIn_p wsL_law0_r22 [304, 307, 880, 884, 292, 888] rfl (by decide +kernel) w h).1
set_option maxRecDepth 20000 in
theorem lwp_23 : ∀ w ∈ wsL_law0_r23, w ∈ lw_tbl := fun w h => (goodIn_p wsL_law0_r23 [586, 590, 593, 598, 602, 606] rfl (by decide +kernel) w h).1
set_option maxRecDepth 20000 in
theorem lwp_24 : ∀ w ∈ wsL_law0_r24, w ∈ lw_tbl := fun w h => (goodIn_p wsL_law0_r24 [892, 896, 900, 904, 613] rfl (by decide +kernel) w h).1
set_option maxRecDepth 20000 in
theorem lwp_25 : ∀ w ∈ wsL_law0_r25, w ∈ lw_tbl := fun w h => (goodIn_p wsL_law0_r25 [908, 311, 912, 315, 319, 323] rfl (by decide +kernel) w h).1
set_option maxRecDepth 20000 in
theorem lwp_26 : ∀ w ∈ wsL_law0_r26, w ∈ lw_tbl := fun w h => (goodIn_p wsL_law0_r26 [327, 331, 916, 920, 924] rfl (by decide +kernel) w h).1
set_option maxRecDepth 20000 in
theorem lwp_27 : ∀ w ∈ wsL_law0_r27, w ∈ lw_tbl := fun w h => (goodIn_p wsL_law0_r27 [620, 928, 628, 633, 932] rfl (by decide +kernel) w h).1
set_option maxRecDepth 20000 in
theorem lwp_28 : ∀ w ∈ wsL_law0_r28, w ∈ lw_tbl := fun w h => (goodIn_p wsL_law0_r28 [640, 936, 647, 940] rfl (by decide +kernel) w h).1
