/-! The law's helpers: their rows. -/
theorem dL_heap_0 : decode cL_heap 0 = .ok (.aload_n 3, 1) := by decide +kernel
theorem dL_heap_1 : decode cL_heap 1 = .ok (.iconst 0, 1) := by decide +kernel
theorem dL_heap_2 : decode cL_heap 2 = .ok (.aload_n 0, 1) := by decide +kernel
theorem dL_heap_3 : decode cL_heap 3 = .ok (.iload_n 1, 1) := by decide +kernel
theorem dL_heap_4 : decode cL_heap 4 = .ok (.iload_n 2, 1) := by decide +kernel
theorem dL_heap_5 : decode cL_heap 5 = .ok (.invokevirtual 7, 3) := by decide +kernel
theorem dL_heap_8 : decode cL_heap 8 = .ok (.i2l, 1) := by decide +kernel
theorem dL_heap_9 : decode cL_heap 9 = .ok (.lastore, 1) := by decide +kernel
theorem dL_heap_10 : decode cL_heap 10 = .ok (.goto 11, 3) := by decide +kernel
theorem dL_heap_13 : decode cL_heap 13 = .ok (.astore 4, 2) := by decide +kernel
theorem dL_heap_15 : decode cL_heap 15 = .ok (.iconst 1, 1) := by decide +kernel
theorem dL_heap_16 : decode cL_heap 16 = .ok (.ireturn, 1) := by decide +kernel
theorem dL_heap_17 : decode cL_heap 17 = .ok (.astore 4, 2) := by decide +kernel
theorem dL_heap_19 : decode cL_heap 19 = .ok (.iconst 2, 1) := by decide +kernel
theorem dL_heap_20 : decode cL_heap 20 = .ok (.ireturn, 1) := by decide +kernel
theorem dL_heap_21 : decode cL_heap 21 = .ok (.iconst 0, 1) := by decide +kernel
theorem dL_heap_22 : decode cL_heap 22 = .ok (.ireturn, 1) := by decide +kernel
set_option maxRecDepth 20000 in
theorem ggL_hole_X2_hole : GoodIn wsL_hole wsX2_hole := goodIn_ca (goodIn_ca (goodIn_r _ [7, 8, 9, 10, 11, 6, 12, 13, 14, 15, 16, 17, 18, 19, 20, 21, 22, 23, 24, 25, 26, 27, 28, 29, 30, 31, 32, 33, 34, 35, 36, 37, 38, 39, 40, 41, 42, 43, 44, 45, 46, 47, 48, 49, 50, 51, 52, 53, 54] (by decide +kernel) (by decide +kernel)) (goodIn_sub (fun _ h => List.mem_cons_of_mem _ (List.mem_append_left _ (List.mem_append_right _ h))) (by decide +kernel))) (goodIn_sub (fun _ h => List.mem_cons_of_mem _ (List.mem_append_right _ h)) (by decide +kernel))
set_option maxRecDepth 20000 in
theorem gL_hole_X2_hole : GoodIn wsL_hole (wsV RL 17 RX2 yX2_hole wsX2_hole) := goodIn_app (goodIn_of _ (by decide +kernel)) ggL_hole_X2_hole
theorem dL_hole_0 : decode cL_hole 0 = .ok (.aload_n 3, 1) := by decide +kernel
theorem dL_hole_1 : decode cL_hole 1 = .ok (.iconst 0, 1) := by decide +kernel
theorem dL_hole_2 : decode cL_hole 2 = .ok (.aload_n 0, 1) := by decide +kernel
theorem dL_hole_3 : decode cL_hole 3 = .ok (.iload_n 1, 1) := by decide +kernel
theorem dL_hole_4 : decode cL_hole 4 = .ok (.iload_n 2, 1) := by decide +kernel
theorem dL_hole_5 : decode cL_hole 5 = .ok (.invokevirtual 17, 3) := by decide +kernel
theorem dL_hole_8 : decode cL_hole 8 = .ok (.i2l, 1) := by decide +kernel
theorem dL_hole_9 : decode cL_hole 9 = .ok (.lastore, 1) := by decide +kernel
theorem dL_hole_10 : decode cL_hole 10 = .ok (.goto 11, 3) := by decide +kernel
theorem dL_hole_13 : decode cL_hole 13 = .ok (.astore 4, 2) := by decide +kernel
theorem dL_hole_15 : decode cL_hole 15 = .ok (.iconst 1, 1) := by decide +kernel
theorem dL_hole_16 : decode cL_hole 16 = .ok (.ireturn, 1) := by decide +kernel
theorem dL_hole_17 : decode cL_hole 17 = .ok (.astore 4, 2) := by decide +kernel
theorem dL_hole_19 : decode cL_hole 19 = .ok (.iconst 2, 1) := by decide +kernel
theorem dL_hole_20 : decode cL_hole 20 = .ok (.ireturn, 1) := by decide +kernel
theorem dL_hole_21 : decode cL_hole 21 = .ok (.iconst 0, 1) := by decide +kernel
theorem dL_hole_22 : decode cL_hole 22 = .ok (.ireturn, 1) := by decide +kernel
set_option maxRecDepth 20000 in
theorem ggL_alter_X2_alter : GoodIn wsL_alter wsX2_alter := goodIn_ca (goodIn_ca (goodIn_r _ [7, 8, 9, 10, 11, 12, 13, 6, 14, 15, 16, 17, 18, 19, 20, 21, 22, 23, 24, 25, 26, 27, 28, 29, 30, 31, 32, 33, 34, 35, 36, 37, 38, 39, 40, 41, 42, 43, 44, 45, 46, 47, 48, 49, 50, 51, 52, 53, 54] (by decide +kernel) (by decide +kernel)) (goodIn_sub (fun _ h => List.mem_cons_of_mem _ (List.mem_append_left _ (List.mem_append_right _ h))) (by decide +kernel))) (goodIn_sub (fun _ h => List.mem_cons_of_mem _ (List.mem_append_right _ h)) (by decide +kernel))
set_option maxRecDepth 20000 in
theorem gL_alter_X2_alter : GoodIn wsL_alter (wsV RL 20 RX2 yX2_alter wsX2_alter) := goodIn_app (goodIn_of _ (by decide +kernel)) ggL_alter_X2_alter
theorem dL_alter_0 : decode cL_alter 0 = .ok (.aload 5, 2) := by decide +kernel
theorem dL_alter_2 : decode cL_alter 2 = .ok (.iconst 0, 1) := by decide +kernel
theorem dL_alter_3 : decode cL_alter 3 = .ok (.aload_n 0, 1) := by decide +kernel
theorem dL_alter_4 : decode cL_alter 4 = .ok (.iload_n 1, 1) := by decide +kernel
theorem dL_alter_5 : decode cL_alter 5 = .ok (.iload_n 2, 1) := by decide +kernel
theorem dL_alter_6 : decode cL_alter 6 = .ok (.iload_n 3, 1) := by decide +kernel
theorem dL_alter_7 : decode cL_alter 7 = .ok (.iload 4, 2) := by decide +kernel
theorem dL_alter_9 : decode cL_alter 9 = .ok (.invokevirtual 20, 3) := by decide +kernel
theorem dL_alter_12 : decode cL_alter 12 = .ok (.i2l, 1) := by decide +kernel
theorem dL_alter_13 : decode cL_alter 13 = .ok (.lastore, 1) := by decide +kernel
theorem dL_alter_14 : decode cL_alter 14 = .ok (.goto 11, 3) := by decide +kernel
theorem dL_alter_17 : decode cL_alter 17 = .ok (.astore 6, 2) := by decide +kernel
theorem dL_alter_19 : decode cL_alter 19 = .ok (.iconst 1, 1) := by decide +kernel
theorem dL_alter_20 : decode cL_alter 20 = .ok (.ireturn, 1) := by decide +kernel
theorem dL_alter_21 : decode cL_alter 21 = .ok (.astore 6, 2) := by decide +kernel
theorem dL_alter_23 : decode cL_alter 23 = .ok (.iconst 2, 1) := by decide +kernel
theorem dL_alter_24 : decode cL_alter 24 = .ok (.ireturn, 1) := by decide +kernel
theorem dL_alter_25 : decode cL_alter 25 = .ok (.iconst 0, 1) := by decide +kernel
theorem dL_alter_26 : decode cL_alter 26 = .ok (.ireturn, 1) := by decide +kernel
set_option maxRecDepth 20000 in
theorem ggL_measure_X2_measure : GoodIn wsL_measure wsX2_measure := goodIn_ca (goodIn_r _ [6, 7, 8, 9, 10, 11, 5, 12, 13, 14, 15, 16, 17, 18, 19, 20, 21, 22, 23, 24, 25, 26, 27, 28, 29] (by decide +kernel) (by decide +kernel)) (goodIn_sub (fun _ h => List.mem_cons_of_mem _ (List.mem_append_right _ h)) (by decide +kernel))
set_option maxRecDepth 20000 in
theorem gL_measure_X2_measure : GoodIn wsL_measure (wsV RL 26 RX2 yX2_measure wsX2_measure) := goodIn_app (goodIn_of _ (by decide +kernel)) ggL_measure_X2_measure
theorem dL_measure_0 : decode cL_measure 0 = .ok (.aload_n 3, 1) := by decide +kernel
theorem dL_measure_1 : decode cL_measure 1 = .ok (.iconst 0, 1) := by decide +kernel
theorem dL_measure_2 : decode cL_measure 2 = .ok (.aload_n 0, 1) := by decide +kernel
theorem dL_measure_3 : decode cL_measure 3 = .ok (.iload_n 1, 1) := by decide +kernel
theorem dL_measure_4 : decode cL_measure 4 = .ok (.iload_n 2, 1) := by decide +kernel
theorem dL_measure_5 : decode cL_measure 5 = .ok (.invokevirtual 26, 3) := by decide +kernel
theorem dL_measure_8 : decode cL_measure 8 = .ok (.i2l, 1) := by decide +kernel
theorem dL_measure_9 : decode cL_measure 9 = .ok (.lastore, 1) := by decide +kernel
theorem dL_measure_10 : decode cL_measure 10 = .ok (.goto 7, 3) := by decide +kernel
theorem dL_measure_13 : decode cL_measure 13 = .ok (.astore 4, 2) := by decide +kernel
theorem dL_measure_15 : decode cL_measure 15 = .ok (.iconst 1, 1) := by decide +kernel
theorem dL_measure_16 : decode cL_measure 16 = .ok (.ireturn, 1) := by decide +kernel
theorem dL_measure_17 : decode cL_measure 17 = .ok (.iconst 0, 1) := by decide +kernel
theorem dL_measure_18 : decode cL_measure 18 = .ok (.ireturn, 1) := by decide +kernel
set_option maxRecDepth 20000 in
theorem ggL_own_X2_own : GoodIn wsL_own wsX2_own := goodIn_ca (goodIn_ca (goodIn_r _ [7, 8, 9, 10, 11, 12, 6, 13, 14, 15, 16, 17, 18, 19, 20, 21, 22, 23, 24, 25, 26, 27, 28, 29, 30, 31, 32, 33, 34, 35, 36, 37, 38, 39, 40, 41, 42, 43, 44, 45, 46, 47, 48, 49, 50, 51, 52, 53, 54, 55, 56, 57, 58, 59, 60] (by decide +kernel) (by decide +kernel)) (goodIn_sub (fun _ h => List.mem_cons_of_mem _ (List.mem_append_left _ (List.mem_append_right _ h))) (by decide +kernel))) (goodIn_sub (fun _ h => List.mem_cons_of_mem _ (List.mem_append_right _ h)) (by decide +kernel))
set_option maxRecDepth 20000 in
theorem gL_own_X2_own : GoodIn wsL_own (wsV RL 29 RX2 yX2_own wsX2_own) := goodIn_app (goodIn_of _ (by decide +kernel)) ggL_own_X2_own
theorem dL_own_0 : decode cL_own 0 = .ok (.aload 4, 2) := by decide +kernel
theorem dL_own_2 : decode cL_own 2 = .ok (.iconst 0, 1) := by decide +kernel
theorem dL_own_3 : decode cL_own 3 = .ok (.aload_n 0, 1) := by decide +kernel
theorem dL_own_4 : decode cL_own 4 = .ok (.iload_n 1, 1) := by decide +kernel
theorem dL_own_5 : decode cL_own 5 = .ok (.iload_n 2, 1) := by decide +kernel
theorem dL_own_6 : decode cL_own 6 = .ok (.iload_n 3, 1) := by decide +kernel
theorem dL_own_7 : decode cL_own 7 = .ok (.invokevirtual 29, 3) := by decide +kernel
theorem dL_own_10 : decode cL_own 10 = .ok (.i2l, 1) := by decide +kernel
theorem dL_own_11 : decode cL_own 11 = .ok (.lastore, 1) := by decide +kernel
theorem dL_own_12 : decode cL_own 12 = .ok (.goto 11, 3) := by decide +kernel
theorem dL_own_15 : decode cL_own 15 = .ok (.astore 5, 2) := by decide +kernel
theorem dL_own_17 : decode cL_own 17 = .ok (.iconst 1, 1) := by decide +kernel
theorem dL_own_18 : decode cL_own 18 = .ok (.ireturn, 1) := by decide +kernel
theorem dL_own_19 : decode cL_own 19 = .ok (.astore 5, 2) := by decide +kernel
theorem dL_own_21 : decode cL_own 21 = .ok (.iconst 2, 1) := by decide +kernel
theorem dL_own_22 : decode cL_own 22 = .ok (.ireturn, 1) := by decide +kernel
theorem dL_own_23 : decode cL_own 23 = .ok (.iconst 0, 1) := by decide +kernel
theorem dL_own_24 : decode cL_own 24 = .ok (.ireturn, 1) := by decide +kernel
set_option maxRecDepth 20000 in
theorem ggL_cap_X2_cap : GoodIn wsL_cap wsX2_cap := goodIn_ca (goodIn_ca (goodIn_r _ [7, 8, 9, 10, 11, 12, 6, 13, 14, 15, 16, 17, 18, 19, 20, 21, 22, 23, 24, 25, 26, 27, 28, 29, 30, 31, 32, 33, 34, 35, 36, 37, 38, 39, 40, 41, 42, 43, 44, 45, 46, 47, 48, 49, 50, 51, 52, 53, 54, 55, 56, 57, 58, 59, 60] (by decide +kernel) (by decide +kernel)) (goodIn_sub (fun _ h => List.mem_cons_of_mem _ (List.mem_append_left _ (List.mem_append_right _ h))) (by decide +kernel))) (goodIn_sub (fun _ h => List.mem_cons_of_mem _ (List.mem_append_right _ h)) (by decide +kernel))
set_option maxRecDepth 20000 in
theorem gL_cap_X2_cap : GoodIn wsL_cap (wsV RL 33 RX2 yX2_cap wsX2_cap) := goodIn_app (goodIn_of _ (by decide +kernel)) ggL_cap_X2_cap
theorem dL_cap_0 : decode cL_cap 0 = .ok (.aload 4, 2) := by decide +kernel
theorem dL_cap_2 : decode cL_cap 2 = .ok (.iconst 0, 1) := by decide +kernel
theorem dL_cap_3 : decode cL_cap 3 = .ok (.aload_n 0, 1) := by decide +kernel
theorem dL_cap_4 : decode cL_cap 4 = .ok (.iload_n 1, 1) := by decide +kernel
theorem dL_cap_5 : decode cL_cap 5 = .ok (.iload_n 2, 1) := by decide +kernel
theorem dL_cap_6 : decode cL_cap 6 = .ok (.iload_n 3, 1) := by decide +kernel
theorem dL_cap_7 : decode cL_cap 7 = .ok (.invokevirtual 33, 3) := by decide +kernel
theorem dL_cap_10 : decode cL_cap 10 = .ok (.i2l, 1) := by decide +kernel
theorem dL_cap_11 : decode cL_cap 11 = .ok (.lastore, 1) := by decide +kernel
theorem dL_cap_12 : decode cL_cap 12 = .ok (.goto 11, 3) := by decide +kernel
theorem dL_cap_15 : decode cL_cap 15 = .ok (.astore 5, 2) := by decide +kernel
theorem dL_cap_17 : decode cL_cap 17 = .ok (.iconst 1, 1) := by decide +kernel
theorem dL_cap_18 : decode cL_cap 18 = .ok (.ireturn, 1) := by decide +kernel
theorem dL_cap_19 : decode cL_cap 19 = .ok (.astore 5, 2) := by decide +kernel
theorem dL_cap_21 : decode cL_cap 21 = .ok (.iconst 2, 1) := by decide +kernel
theorem dL_cap_22 : decode cL_cap 22 = .ok (.ireturn, 1) := by decide +kernel
theorem dL_cap_23 : decode cL_cap 23 = .ok (.iconst 0, 1) := by decide +kernel
theorem dL_cap_24 : decode cL_cap 24 = .ok (.ireturn, 1) := by decide +kernel
set_option maxRecDepth 20000 in
theorem ggL_terms_X2_terms : GoodIn wsL_terms wsX2_terms := goodIn_ca (goodIn_r _ [6, 7, 8, 9, 10, 11, 5, 12, 13, 14, 15, 16, 17, 18, 19, 20, 21, 22, 23, 24, 25, 26, 27, 28, 29] (by decide +kernel) (by decide +kernel)) (goodIn_sub (fun _ h => List.mem_cons_of_mem _ (List.mem_append_right _ h)) (by decide +kernel))
set_option maxRecDepth 20000 in
theorem gL_terms_X2_terms : GoodIn wsL_terms (wsV RL 36 RX2 yX2_terms wsX2_terms) := goodIn_app (goodIn_of _ (by decide +kernel)) ggL_terms_X2_terms
theorem dL_terms_0 : decode cL_terms 0 = .ok (.aload_n 3, 1) := by decide +kernel
theorem dL_terms_1 : decode cL_terms 1 = .ok (.iconst 0, 1) := by decide +kernel
theorem dL_terms_2 : decode cL_terms 2 = .ok (.aload_n 0, 1) := by decide +kernel
theorem dL_terms_3 : decode cL_terms 3 = .ok (.iload_n 1, 1) := by decide +kernel
theorem dL_terms_4 : decode cL_terms 4 = .ok (.iload_n 2, 1) := by decide +kernel
theorem dL_terms_5 : decode cL_terms 5 = .ok (.invokevirtual 36, 3) := by decide +kernel
theorem dL_terms_8 : decode cL_terms 8 = .ok (.i2l, 1) := by decide +kernel
theorem dL_terms_9 : decode cL_terms 9 = .ok (.lastore, 1) := by decide +kernel
theorem dL_terms_10 : decode cL_terms 10 = .ok (.goto 7, 3) := by decide +kernel
theorem dL_terms_13 : decode cL_terms 13 = .ok (.astore 4, 2) := by decide +kernel
theorem dL_terms_15 : decode cL_terms 15 = .ok (.iconst 1, 1) := by decide +kernel
theorem dL_terms_16 : decode cL_terms 16 = .ok (.ireturn, 1) := by decide +kernel
theorem dL_terms_17 : decode cL_terms 17 = .ok (.iconst 0, 1) := by decide +kernel
theorem dL_terms_18 : decode cL_terms 18 = .ok (.ireturn, 1) := by decide +kernel
set_option maxRecDepth 20000 in
theorem ggL_unit_X2_unit : GoodIn wsL_unit wsX2_unit := goodIn_ca (goodIn_r _ [6, 7, 8, 9, 5, 10, 11, 12, 13, 14, 15, 16, 17, 18, 19, 20, 21, 22, 23, 24, 25, 26, 27, 28, 29, 30, 31, 32, 33, 34, 35, 36, 37, 38, 39, 40, 41, 42, 43, 44, 45, 46, 47, 48, 49, 50, 51, 52, 53, 54, 55, 56, 57, 58, 59, 60, 61, 62, 63, 64, 65, 66, 67, 68] (by decide +kernel) (by decide +kernel)) (goodIn_sub (fun _ h => List.mem_cons_of_mem _ (List.mem_append_right _ h)) (by decide +kernel))
set_option maxRecDepth 20000 in
theorem gL_unit_X2_unit : GoodIn wsL_unit (wsV RL 39 RX2 yX2_unit wsX2_unit) := goodIn_app (goodIn_of _ (by decide +kernel)) ggL_unit_X2_unit
theorem dL_unit_0 : decode cL_unit 0 = .ok (.aload_n 3, 1) := by decide +kernel
theorem dL_unit_1 : decode cL_unit 1 = .ok (.iconst 0, 1) := by decide +kernel
theorem dL_unit_2 : decode cL_unit 2 = .ok (.aload_n 0, 1) := by decide +kernel
theorem dL_unit_3 : decode cL_unit 3 = .ok (.iload_n 1, 1) := by decide +kernel
theorem dL_unit_4 : decode cL_unit 4 = .ok (.iload_n 2, 1) := by decide +kernel
theorem dL_unit_5 : decode cL_unit 5 = .ok (.invokevirtual 39, 3) := by decide +kernel
theorem dL_unit_8 : decode cL_unit 8 = .ok (.i2l, 1) := by decide +kernel
theorem dL_unit_9 : decode cL_unit 9 = .ok (.lastore, 1) := by decide +kernel
theorem dL_unit_10 : decode cL_unit 10 = .ok (.goto 7, 3) := by decide +kernel
theorem dL_unit_13 : decode cL_unit 13 = .ok (.astore 4, 2) := by decide +kernel
theorem dL_unit_15 : decode cL_unit 15 = .ok (.iconst 1, 1) := by decide +kernel
theorem dL_unit_16 : decode cL_unit 16 = .ok (.ireturn, 1) := by decide +kernel
theorem dL_unit_17 : decode cL_unit 17 = .ok (.iconst 0, 1) := by decide +kernel
theorem dL_unit_18 : decode cL_unit 18 = .ok (.ireturn, 1) := by decide +kernel
set_option maxRecDepth 20000 in
theorem ggL_leastAnew_X2_leastAnew : GoodIn wsL_leastAnew wsX2_leastAnew := goodIn_ca (goodIn_r _ [6, 7, 8, 9, 10, 11, 12, 13, 14, 15, 16, 17, 5, 18, 19, 20, 21, 22, 23, 24, 25, 26, 27, 28, 29, 30, 31, 32, 33, 34, 35, 36, 37, 38, 39, 40, 41, 42, 43, 44, 45, 46, 47, 48, 49, 50, 51, 52, 53, 54, 55, 56, 57, 58, 59, 60, 61, 62, 63, 64, 65, 66, 67, 68, 69, 70, 71, 72, 73, 74, 75, 76, 77, 78, 79, 80, 81, 82, 83, 84, 85, 86, 87, 88, 89, 90, 91, 92, 93, 94, 95, 96, 97, 98, 99, 100, 101, 102, 103, 104, 105, 106, 107, 108, 109, 110, 111, 112, 113, 114, 115, 116, 117, 118, 119, 120] (by decide +kernel) (by decide +kernel)) (goodIn_sub (fun _ h => List.mem_cons_of_mem _ (List.mem_append_right _ h)) (by decide +kernel))
set_option maxRecDepth 20000 in
theorem gL_leastAnew_X2_leastAnew : GoodIn wsL_leastAnew (wsV RL 42 RX2 yX2_leastAnew wsX2_leastAnew) := goodIn_app (goodIn_of _ (by decide +kernel)) ggL_leastAnew_X2_leastAnew
theorem dL_leastAnew_0 : decode cL_leastAnew 0 = .ok (.aload_n 1, 1) := by decide +kernel
theorem dL_leastAnew_1 : decode cL_leastAnew 1 = .ok (.iconst 0, 1) := by decide +kernel
theorem dL_leastAnew_2 : decode cL_leastAnew 2 = .ok (.aload_n 0, 1) := by decide +kernel
theorem dL_leastAnew_3 : decode cL_leastAnew 3 = .ok (.invokevirtual 42, 3) := by decide +kernel
theorem dL_leastAnew_6 : decode cL_leastAnew 6 = .ok (.i2l, 1) := by decide +kernel
theorem dL_leastAnew_7 : decode cL_leastAnew 7 = .ok (.lastore, 1) := by decide +kernel
theorem dL_leastAnew_8 : decode cL_leastAnew 8 = .ok (.goto 6, 3) := by decide +kernel
theorem dL_leastAnew_11 : decode cL_leastAnew 11 = .ok (.astore_n 2, 1) := by decide +kernel
theorem dL_leastAnew_12 : decode cL_leastAnew 12 = .ok (.iconst 1, 1) := by decide +kernel
theorem dL_leastAnew_13 : decode cL_leastAnew 13 = .ok (.ireturn, 1) := by decide +kernel
theorem dL_leastAnew_14 : decode cL_leastAnew 14 = .ok (.iconst 0, 1) := by decide +kernel
theorem dL_leastAnew_15 : decode cL_leastAnew 15 = .ok (.ireturn, 1) := by decide +kernel
set_option maxRecDepth 20000 in
theorem ggL_carried_X2_carried : GoodIn wsL_carried wsX2_carried := goodIn_ca (goodIn_r _ [6, 7, 8, 9, 10, 5, 11, 12, 13, 14, 15, 16, 17, 18, 19, 20, 21, 22, 23, 24, 25, 26, 27, 28, 29, 30, 31, 32, 33, 34, 35, 36, 37, 38, 39, 40, 41, 42, 43, 44, 45, 46, 47, 48, 49, 50, 51, 52, 53, 54, 55, 56, 57, 58, 59, 60, 61, 62, 63, 64, 65, 66, 67, 68, 69, 70, 71, 72, 73, 74, 75, 76, 77, 78, 79, 80, 81, 82, 83, 84, 85, 86, 87, 88, 89, 90, 91, 92, 93, 94, 95, 96, 97, 98, 99, 100, 101, 102, 103, 104, 105, 106, 107, 108, 109, 110, 111, 112, 113, 114, 115, 116, 117, 118, 119, 120, 121, 122, 123, 124, 125, 126, 127, 128, 129, 130, 131, 132, 133, 134, 135, 136, 137, 138, 139, 140, 141, 142, 143, 144, 145, 146, 147, 148, 149, 150, 151, 152, 153, 154, 155, 156, 157, 158, 159, 160, 161, 162, 163, 164, 165, 166, 167, 168, 169, 170, 171, 172] (by decide +kernel) (by decide +kernel)) (goodIn_sub (fun _ h => List.mem_cons_of_mem _ (List.mem_append_right _ h)) (by decide +kernel))
set_option maxRecDepth 20000 in
theorem gL_carried_X2_carried : GoodIn wsL_carried (wsV RL 46 RX2 yX2_carried wsX2_carried) := goodIn_app (goodIn_of _ (by decide +kernel)) ggL_carried_X2_carried
theorem dL_carried_0 : decode cL_carried 0 = .ok (.aload_n 3, 1) := by decide +kernel
theorem dL_carried_1 : decode cL_carried 1 = .ok (.iconst 0, 1) := by decide +kernel
theorem dL_carried_2 : decode cL_carried 2 = .ok (.aload_n 0, 1) := by decide +kernel
theorem dL_carried_3 : decode cL_carried 3 = .ok (.iload_n 1, 1) := by decide +kernel
theorem dL_carried_4 : decode cL_carried 4 = .ok (.iload_n 2, 1) := by decide +kernel
theorem dL_carried_5 : decode cL_carried 5 = .ok (.invokevirtual 46, 3) := by decide +kernel
theorem dL_carried_8 : decode cL_carried 8 = .ok (.i2l, 1) := by decide +kernel
theorem dL_carried_9 : decode cL_carried 9 = .ok (.lastore, 1) := by decide +kernel
theorem dL_carried_10 : decode cL_carried 10 = .ok (.goto 7, 3) := by decide +kernel
theorem dL_carried_13 : decode cL_carried 13 = .ok (.astore 4, 2) := by decide +kernel
theorem dL_carried_15 : decode cL_carried 15 = .ok (.iconst 1, 1) := by decide +kernel
theorem dL_carried_16 : decode cL_carried 16 = .ok (.ireturn, 1) := by decide +kernel
theorem dL_carried_17 : decode cL_carried 17 = .ok (.iconst 0, 1) := by decide +kernel
theorem dL_carried_18 : decode cL_carried 18 = .ok (.ireturn, 1) := by decide +kernel
set_option maxRecDepth 20000 in
theorem ggL_left_X2_left : GoodIn wsL_left wsX2_left := goodIn_ca (goodIn_r _ [6, 7, 8, 9, 10, 11, 5, 12, 13, 14, 15, 16, 17, 18, 19, 20, 21, 22, 23, 24, 25, 26, 27, 28, 29, 30, 31, 32, 33, 34, 35, 36, 37, 38, 39, 40, 41, 42, 43, 44, 45, 46, 47, 48, 49, 50, 51, 52, 53, 54, 55, 56, 57, 58, 59, 60, 61, 62, 63, 64, 65, 66, 67, 68, 69, 70, 71, 72, 73, 74, 75, 76, 77, 78, 79, 80, 81, 82, 83, 84, 85, 86, 87, 88, 89, 90, 91, 92, 93, 94, 95, 96, 97, 98, 99, 100, 101, 102, 103, 104, 105, 106, 107, 108, 109, 110, 111, 112, 113, 114, 115, 116, 117, 118, 119, 120, 121, 122, 123, 124, 125, 126, 127, 128, 129, 130, 131, 132, 133, 134, 135, 136, 137, 138, 139, 140, 141, 142, 143, 144, 145, 146, 147, 148, 149, 150, 151, 152, 153, 154, 155, 156, 157, 158, 159, 160, 161, 162, 163, 164, 165, 166, 167, 168, 169] (by decide +kernel) (by decide +kernel)) (goodIn_sub (fun _ h => List.mem_cons_of_mem _ (List.mem_append_right _ h)) (by decide +kernel))
set_option maxRecDepth 20000 in
theorem gL_left_X2_left : GoodIn wsL_left (wsV RL 49 RX2 yX2_left wsX2_left) := goodIn_app (goodIn_of _ (by decide +kernel)) ggL_left_X2_left
theorem dL_left_0 : decode cL_left 0 = .ok (.aload_n 3, 1) := by decide +kernel
theorem dL_left_1 : decode cL_left 1 = .ok (.iconst 0, 1) := by decide +kernel
theorem dL_left_2 : decode cL_left 2 = .ok (.aload_n 0, 1) := by decide +kernel
theorem dL_left_3 : decode cL_left 3 = .ok (.iload_n 1, 1) := by decide +kernel
theorem dL_left_4 : decode cL_left 4 = .ok (.iload_n 2, 1) := by decide +kernel
theorem dL_left_5 : decode cL_left 5 = .ok (.invokevirtual 49, 3) := by decide +kernel
theorem dL_left_8 : decode cL_left 8 = .ok (.i2l, 1) := by decide +kernel
theorem dL_left_9 : decode cL_left 9 = .ok (.lastore, 1) := by decide +kernel
theorem dL_left_10 : decode cL_left 10 = .ok (.goto 7, 3) := by decide +kernel
theorem dL_left_13 : decode cL_left 13 = .ok (.astore 4, 2) := by decide +kernel
theorem dL_left_15 : decode cL_left 15 = .ok (.iconst 1, 1) := by decide +kernel
theorem dL_left_16 : decode cL_left 16 = .ok (.ireturn, 1) := by decide +kernel
theorem dL_left_17 : decode cL_left 17 = .ok (.iconst 0, 1) := by decide +kernel
theorem dL_left_18 : decode cL_left 18 = .ok (.ireturn, 1) := by decide +kernel
set_option maxRecDepth 20000 in
theorem ggL_without_X2_without : GoodIn wsL_without wsX2_without := goodIn_ca (goodIn_r _ [6, 7, 8, 9, 10, 11, 12, 5, 13, 14, 15, 16, 17, 18, 19, 20, 21, 22, 23, 24, 25, 26, 27, 28, 29, 30, 31, 32, 33, 34, 35, 36, 37, 38, 39, 40, 41, 42, 43, 44, 45, 46, 47, 48, 49, 50, 51, 52, 53, 54, 55, 56, 57, 58, 59, 60, 61, 62, 63, 64, 65, 66, 67, 68, 69, 70, 71, 72, 73, 74, 75, 76, 77, 78, 79, 80, 81, 82, 83, 84, 85, 86, 87, 88, 89, 90, 91, 92, 93, 94, 95, 96, 97, 98, 99, 100, 101, 102, 103, 104, 105, 106, 107, 108, 109, 110, 111, 112, 113, 114, 115, 116, 117, 118, 119, 120, 121, 122, 123, 124, 125, 126, 127, 128, 129, 130, 131, 132, 133, 134, 135, 136, 137, 138, 139, 140, 141, 142, 143, 144, 145, 146, 147, 148, 149, 150, 151, 152, 153, 154, 155, 156, 157, 158, 159, 160, 161, 162, 163, 164, 165, 166, 167, 168, 169, 170, 171, 172, 173, 174] (by decide +kernel) (by decide +kernel)) (goodIn_sub (fun _ h => List.mem_cons_of_mem _ (List.mem_append_right _ h)) (by decide +kernel))
set_option maxRecDepth 20000 in
theorem gL_without_X2_without : GoodIn wsL_without (wsV RL 53 RX2 yX2_without wsX2_without) := goodIn_app (goodIn_of _ (by decide +kernel)) ggL_without_X2_without
theorem dL_without_0 : decode cL_without 0 = .ok (.aload_n 3, 1) := by decide +kernel
theorem dL_without_1 : decode cL_without 1 = .ok (.iconst 0, 1) := by decide +kernel
theorem dL_without_2 : decode cL_without 2 = .ok (.aload_n 0, 1) := by decide +kernel
theorem dL_without_3 : decode cL_without 3 = .ok (.iload_n 1, 1) := by decide +kernel
theorem dL_without_4 : decode cL_without 4 = .ok (.iload_n 2, 1) := by decide +kernel
theorem dL_without_5 : decode cL_without 5 = .ok (.invokevirtual 53, 3) := by decide +kernel
theorem dL_without_8 : decode cL_without 8 = .ok (.i2l, 1) := by decide +kernel
theorem dL_without_9 : decode cL_without 9 = .ok (.lastore, 1) := by decide +kernel
theorem dL_without_10 : decode cL_without 10 = .ok (.goto 7, 3) := by decide +kernel
theorem dL_without_13 : decode cL_without 13 = .ok (.astore 4, 2) := by decide +kernel
theorem dL_without_15 : decode cL_without 15 = .ok (.iconst 1, 1) := by decide +kernel
theorem dL_without_16 : decode cL_without 16 = .ok (.ireturn, 1) := by decide +kernel
theorem dL_without_17 : decode cL_without 17 = .ok (.iconst 0, 1) := by decide +kernel
theorem dL_without_18 : decode cL_without 18 = .ok (.ireturn, 1) := by decide +kernel
set_option maxRecDepth 20000 in
theorem ggL_price_X2_price : GoodIn wsL_price wsX2_price := goodIn_ca (goodIn_r _ [6, 7, 8, 9, 5, 10, 11, 12, 13, 14, 15, 16, 17, 18, 19, 20, 21, 22, 23, 24, 25, 26, 27, 28, 29, 30, 31, 32, 33, 34, 35, 36, 37, 38, 39, 40, 41, 42, 43, 44, 45, 46, 47, 48, 49, 50, 51, 52, 53, 54, 55, 56, 57, 58, 59, 60, 61, 62, 63, 64, 65, 66, 67, 68, 69, 70, 71, 72, 73, 74, 75, 76, 77, 78, 79, 80, 81, 82, 83, 84, 85, 86, 87, 88, 89, 90, 91, 92, 93, 94, 95, 96, 97, 98, 99, 100, 101, 102, 103, 104, 105, 106, 107, 108, 109, 110, 111, 112, 113, 114, 115, 116, 117, 118, 119, 120, 121, 122, 123, 124, 125, 126, 127, 128, 129, 130, 131, 132, 133, 134, 135, 136, 137, 138, 139, 140, 141, 142, 143, 144, 145, 146, 147, 148, 149, 150, 151, 152, 153, 154, 155, 156, 157, 158, 159, 160, 161, 162, 163, 164, 165, 166, 167, 168, 169, 170, 171, 172, 173, 174, 175, 176, 177] (by decide +kernel) (by decide +kernel)) (goodIn_sub (fun _ h => List.mem_cons_of_mem _ (List.mem_append_right _ h)) (by decide +kernel))
set_option maxRecDepth 20000 in
theorem gL_price_X2_price : GoodIn wsL_price (wsV RL 56 RX2 yX2_price wsX2_price) := goodIn_app (goodIn_of _ (by decide +kernel)) ggL_price_X2_price
theorem dL_price_0 : decode cL_price 0 = .ok (.aload_n 3, 1) := by decide +kernel
theorem dL_price_1 : decode cL_price 1 = .ok (.iconst 0, 1) := by decide +kernel
theorem dL_price_2 : decode cL_price 2 = .ok (.aload_n 0, 1) := by decide +kernel
theorem dL_price_3 : decode cL_price 3 = .ok (.iload_n 1, 1) := by decide +kernel
theorem dL_price_4 : decode cL_price 4 = .ok (.iload_n 2, 1) := by decide +kernel
theorem dL_price_5 : decode cL_price 5 = .ok (.invokevirtual 56, 3) := by decide +kernel
theorem dL_price_8 : decode cL_price 8 = .ok (.i2l, 1) := by decide +kernel
theorem dL_price_9 : decode cL_price 9 = .ok (.lastore, 1) := by decide +kernel
theorem dL_price_10 : decode cL_price 10 = .ok (.goto 7, 3) := by decide +kernel
theorem dL_price_13 : decode cL_price 13 = .ok (.astore 4, 2) := by decide +kernel
theorem dL_price_15 : decode cL_price 15 = .ok (.iconst 1, 1) := by decide +kernel
theorem dL_price_16 : decode cL_price 16 = .ok (.ireturn, 1) := by decide +kernel
theorem dL_price_17 : decode cL_price 17 = .ok (.iconst 0, 1) := by decide +kernel
theorem dL_price_18 : decode cL_price 18 = .ok (.ireturn, 1) := by decide +kernel
set_option maxRecDepth 20000 in
theorem ggL_toll_X2_toll : GoodIn wsL_toll wsX2_toll := goodIn_ca (goodIn_r _ [6, 7, 8, 9, 5, 10, 11, 12, 13, 14, 15, 16, 17, 18, 19, 20, 21, 22, 23, 24, 25, 26, 27, 28, 29, 30, 31, 32, 33, 34, 35, 36, 37, 38, 39, 40, 41, 42, 43, 44, 45, 46, 47, 48, 49, 50, 51, 52, 53, 54, 55, 56, 57, 58, 59, 60, 61, 62, 63, 64, 65, 66, 67, 68, 69, 70, 71, 72, 73, 74, 75, 76, 77, 78, 79, 80, 81, 82, 83, 84, 85, 86, 87, 88, 89, 90, 91, 92, 93, 94, 95, 96, 97, 98, 99, 100, 101, 102, 103, 104, 105, 106, 107, 108, 109, 110, 111, 112, 113, 114, 115, 116, 117, 118, 119, 120, 121, 122, 123, 124, 125, 126, 127, 128, 129, 130, 131, 132, 133, 134, 135, 136, 137, 138, 139, 140, 141, 142, 143, 144, 145, 146, 147, 148, 149, 150, 151, 152, 153, 154, 155, 156, 157, 158, 159, 160, 161, 162, 163, 164, 165, 166, 167, 168, 169, 170, 171, 172, 173, 174, 175, 176, 177, 178, 179, 180, 181, 182, 183, 184, 185, 186, 187, 188] (by decide +kernel) (by decide +kernel)) (goodIn_sub (fun _ h => List.mem_cons_of_mem _ (List.mem_append_right _ h)) (by decide +kernel))
set_option maxRecDepth 20000 in
theorem gL_toll_X2_toll : GoodIn wsL_toll (wsV RL 59 RX2 yX2_toll wsX2_toll) := goodIn_app (goodIn_of _ (by decide +kernel)) ggL_toll_X2_toll
theorem dL_toll_0 : decode cL_toll 0 = .ok (.aload_n 3, 1) := by decide +kernel
theorem dL_toll_1 : decode cL_toll 1 = .ok (.iconst 0, 1) := by decide +kernel
theorem dL_toll_2 : decode cL_toll 2 = .ok (.aload_n 0, 1) := by decide +kernel
theorem dL_toll_3 : decode cL_toll 3 = .ok (.iload_n 1, 1) := by decide +kernel
theorem dL_toll_4 : decode cL_toll 4 = .ok (.iload_n 2, 1) := by decide +kernel
theorem dL_toll_5 : decode cL_toll 5 = .ok (.invokevirtual 59, 3) := by decide +kernel
theorem dL_toll_8 : decode cL_toll 8 = .ok (.i2l, 1) := by decide +kernel
theorem dL_toll_9 : decode cL_toll 9 = .ok (.lastore, 1) := by decide +kernel
theorem dL_toll_10 : decode cL_toll 10 = .ok (.goto 7, 3) := by decide +kernel
theorem dL_toll_13 : decode cL_toll 13 = .ok (.astore 4, 2) := by decide +kernel
theorem dL_toll_15 : decode cL_toll 15 = .ok (.iconst 1, 1) := by decide +kernel
theorem dL_toll_16 : decode cL_toll 16 = .ok (.ireturn, 1) := by decide +kernel
theorem dL_toll_17 : decode cL_toll 17 = .ok (.iconst 0, 1) := by decide +kernel
theorem dL_toll_18 : decode cL_toll 18 = .ok (.ireturn, 1) := by decide +kernel
set_option maxRecDepth 20000 in
theorem ggL_order_X2_order : GoodIn wsL_order wsX2_order := goodIn_ca (goodIn_r _ [6, 7, 8, 9, 10, 11, 12, 13, 14, 15, 16, 17, 5, 18, 19, 20, 21, 22, 23, 24, 25, 26, 27, 28, 29, 30, 31, 32, 33, 34, 35, 36, 37, 38, 39, 40, 41, 42, 43, 44, 45, 46, 47, 48, 49, 50, 51, 52, 53, 54, 55, 56, 57, 58, 59, 60, 61, 62, 63, 64, 65, 66] (by decide +kernel) (by decide +kernel)) (goodIn_sub (fun _ h => List.mem_cons_of_mem _ (List.mem_append_right _ h)) (by decide +kernel))
set_option maxRecDepth 20000 in
theorem gL_order_X2_order : GoodIn wsL_order (wsV RL 62 RX2 yX2_order wsX2_order) := goodIn_app (goodIn_of _ (by decide +kernel)) ggL_order_X2_order
theorem dL_order_0 : decode cL_order 0 = .ok (.aload_n 1, 1) := by decide +kernel
theorem dL_order_1 : decode cL_order 1 = .ok (.iconst 0, 1) := by decide +kernel
theorem dL_order_2 : decode cL_order 2 = .ok (.aload_n 0, 1) := by decide +kernel
theorem dL_order_3 : decode cL_order 3 = .ok (.invokevirtual 62, 3) := by decide +kernel
theorem dL_order_6 : decode cL_order 6 = .ok (.i2l, 1) := by decide +kernel
theorem dL_order_7 : decode cL_order 7 = .ok (.lastore, 1) := by decide +kernel
theorem dL_order_8 : decode cL_order 8 = .ok (.goto 6, 3) := by decide +kernel
theorem dL_order_11 : decode cL_order 11 = .ok (.astore_n 2, 1) := by decide +kernel
theorem dL_order_12 : decode cL_order 12 = .ok (.iconst 1, 1) := by decide +kernel
theorem dL_order_13 : decode cL_order 13 = .ok (.ireturn, 1) := by decide +kernel
theorem dL_order_14 : decode cL_order 14 = .ok (.iconst 0, 1) := by decide +kernel
theorem dL_order_15 : decode cL_order 15 = .ok (.ireturn, 1) := by decide +kernel
set_option maxRecDepth 20000 in
theorem ggL_carry_X2_carry : GoodIn wsL_carry wsX2_carry := goodIn_ca (goodIn_ca (goodIn_r _ [7, 8, 9, 10, 11, 6, 12, 13, 14, 15, 16, 17, 18, 19, 20, 21, 22, 23, 24, 25, 26, 27, 28, 29, 30, 31, 32, 33, 34, 35, 36, 37, 38, 39, 40, 41, 42, 43, 44, 45, 46, 47, 48, 49, 50, 51, 52, 53, 54, 55, 56, 57, 58, 59] (by decide +kernel) (by decide +kernel)) (goodIn_sub (fun _ h => List.mem_cons_of_mem _ (List.mem_append_left _ (List.mem_append_right _ h))) (by decide +kernel))) (goodIn_sub (fun _ h => List.mem_cons_of_mem _ (List.mem_append_right _ h)) (by decide +kernel))
set_option maxRecDepth 20000 in
theorem gL_carry_X2_carry : GoodIn wsL_carry (wsV RL 65 RX2 yX2_carry wsX2_carry) := goodIn_app (goodIn_of _ (by decide +kernel)) ggL_carry_X2_carry
theorem dL_carry_0 : decode cL_carry 0 = .ok (.aload 4, 2) := by decide +kernel
theorem dL_carry_2 : decode cL_carry 2 = .ok (.iconst 0, 1) := by decide +kernel
theorem dL_carry_3 : decode cL_carry 3 = .ok (.aload_n 0, 1) := by decide +kernel
theorem dL_carry_4 : decode cL_carry 4 = .ok (.iload_n 1, 1) := by decide +kernel
theorem dL_carry_5 : decode cL_carry 5 = .ok (.iload_n 2, 1) := by decide +kernel
theorem dL_carry_6 : decode cL_carry 6 = .ok (.iload_n 3, 1) := by decide +kernel
theorem dL_carry_7 : decode cL_carry 7 = .ok (.invokevirtual 65, 3) := by decide +kernel
theorem dL_carry_10 : decode cL_carry 10 = .ok (.i2l, 1) := by decide +kernel
theorem dL_carry_11 : decode cL_carry 11 = .ok (.lastore, 1) := by decide +kernel
theorem dL_carry_12 : decode cL_carry 12 = .ok (.goto 11, 3) := by decide +kernel
theorem dL_carry_15 : decode cL_carry 15 = .ok (.astore 5, 2) := by decide +kernel
theorem dL_carry_17 : decode cL_carry 17 = .ok (.iconst 1, 1) := by decide +kernel
theorem dL_carry_18 : decode cL_carry 18 = .ok (.ireturn, 1) := by decide +kernel
theorem dL_carry_19 : decode cL_carry 19 = .ok (.astore 5, 2) := by decide +kernel
theorem dL_carry_21 : decode cL_carry 21 = .ok (.iconst 2, 1) := by decide +kernel
theorem dL_carry_22 : decode cL_carry 22 = .ok (.ireturn, 1) := by decide +kernel
theorem dL_carry_23 : decode cL_carry 23 = .ok (.iconst 0, 1) := by decide +kernel
theorem dL_carry_24 : decode cL_carry 24 = .ok (.ireturn, 1) := by decide +kernel
set_option maxRecDepth 20000 in
theorem ggL_handCost_X2_handCost : GoodIn wsL_handCost wsX2_handCost := goodIn_ca (goodIn_r _ [6, 7, 8, 9, 10, 11, 5, 12, 13, 14, 15, 16, 17, 18, 19, 20, 21, 22, 23, 24, 25, 26, 27, 28, 29, 30, 31, 32, 33, 34, 35, 36, 37, 38, 39, 40, 41, 42, 43, 44, 45, 46, 47, 48, 49, 50, 51, 52, 53, 54, 55, 56, 57, 58, 59, 60, 61, 62, 63, 64, 65, 66, 67, 68, 69, 70, 71, 72] (by decide +kernel) (by decide +kernel)) (goodIn_sub (fun _ h => List.mem_cons_of_mem _ (List.mem_append_right _ h)) (by decide +kernel))
set_option maxRecDepth 20000 in
theorem gL_handCost_X2_handCost : GoodIn wsL_handCost (wsV RL 68 RX2 yX2_handCost wsX2_handCost) := goodIn_app (goodIn_of _ (by decide +kernel)) ggL_handCost_X2_handCost
theorem dL_handCost_0 : decode cL_handCost 0 = .ok (.aload_n 1, 1) := by decide +kernel
theorem dL_handCost_1 : decode cL_handCost 1 = .ok (.iconst 0, 1) := by decide +kernel
theorem dL_handCost_2 : decode cL_handCost 2 = .ok (.aload_n 0, 1) := by decide +kernel
theorem dL_handCost_3 : decode cL_handCost 3 = .ok (.invokevirtual 68, 3) := by decide +kernel
theorem dL_handCost_6 : decode cL_handCost 6 = .ok (.i2l, 1) := by decide +kernel
theorem dL_handCost_7 : decode cL_handCost 7 = .ok (.lastore, 1) := by decide +kernel
theorem dL_handCost_8 : decode cL_handCost 8 = .ok (.goto 6, 3) := by decide +kernel
theorem dL_handCost_11 : decode cL_handCost 11 = .ok (.astore_n 2, 1) := by decide +kernel
theorem dL_handCost_12 : decode cL_handCost 12 = .ok (.iconst 1, 1) := by decide +kernel
theorem dL_handCost_13 : decode cL_handCost 13 = .ok (.ireturn, 1) := by decide +kernel
theorem dL_handCost_14 : decode cL_handCost 14 = .ok (.iconst 0, 1) := by decide +kernel
theorem dL_handCost_15 : decode cL_handCost 15 = .ok (.ireturn, 1) := by decide +kernel
set_option maxRecDepth 20000 in
theorem ggL_middle_X2_middle : GoodIn wsL_middle wsX2_middle := goodIn_ca (goodIn_r _ [6, 7, 8, 9, 10, 11, 12, 13, 5, 14, 15, 16, 17, 18, 19, 20, 21, 22, 23, 24, 25, 26, 27, 28, 29, 30, 31, 32, 33, 34, 35, 36, 37, 38, 39, 40, 41, 42, 43, 44, 45, 46, 47] (by decide +kernel) (by decide +kernel)) (goodIn_sub (fun _ h => List.mem_cons_of_mem _ (List.mem_append_right _ h)) (by decide +kernel))
set_option maxRecDepth 20000 in
theorem gL_middle_X2_middle : GoodIn wsL_middle (wsV RL 71 RX2 yX2_middle wsX2_middle) := goodIn_app (goodIn_of _ (by decide +kernel)) ggL_middle_X2_middle
theorem dL_middle_0 : decode cL_middle 0 = .ok (.aload_n 1, 1) := by decide +kernel
theorem dL_middle_1 : decode cL_middle 1 = .ok (.iconst 0, 1) := by decide +kernel
theorem dL_middle_2 : decode cL_middle 2 = .ok (.aload_n 0, 1) := by decide +kernel
theorem dL_middle_3 : decode cL_middle 3 = .ok (.invokevirtual 71, 3) := by decide +kernel
theorem dL_middle_6 : decode cL_middle 6 = .ok (.i2l, 1) := by decide +kernel
theorem dL_middle_7 : decode cL_middle 7 = .ok (.lastore, 1) := by decide +kernel
theorem dL_middle_8 : decode cL_middle 8 = .ok (.goto 6, 3) := by decide +kernel
theorem dL_middle_11 : decode cL_middle 11 = .ok (.astore_n 2, 1) := by decide +kernel
theorem dL_middle_12 : decode cL_middle 12 = .ok (.iconst 1, 1) := by decide +kernel
theorem dL_middle_13 : decode cL_middle 13 = .ok (.ireturn, 1) := by decide +kernel
theorem dL_middle_14 : decode cL_middle 14 = .ok (.iconst 0, 1) := by decide +kernel
theorem dL_middle_15 : decode cL_middle 15 = .ok (.ireturn, 1) := by decide +kernel
set_option maxRecDepth 20000 in
theorem ggL_about_X2_about : GoodIn wsL_about wsX2_about := goodIn_ca (goodIn_ca (goodIn_r _ [7, 8, 9, 10, 11, 12, 6, 13, 14, 15, 16, 17, 18, 19, 20, 21, 22, 23, 24, 25, 26, 27, 28, 29, 30, 31, 32, 33, 34, 35, 36, 37, 38, 39, 40, 41, 42, 43, 44, 45, 46, 47, 48, 49, 50, 51, 52, 53, 54, 55, 56, 57, 58, 59, 60, 61, 62, 63] (by decide +kernel) (by decide +kernel)) (goodIn_sub (fun _ h => List.mem_cons_of_mem _ (List.mem_append_left _ (List.mem_append_right _ h))) (by decide +kernel))) (goodIn_sub (fun _ h => List.mem_cons_of_mem _ (List.mem_append_right _ h)) (by decide +kernel))
set_option maxRecDepth 20000 in
theorem gL_about_X2_about : GoodIn wsL_about (wsV RL 74 RX2 yX2_about wsX2_about) := goodIn_app (goodIn_of _ (by decide +kernel)) ggL_about_X2_about
theorem dL_about_0 : decode cL_about 0 = .ok (.aload 4, 2) := by decide +kernel
theorem dL_about_2 : decode cL_about 2 = .ok (.iconst 0, 1) := by decide +kernel
theorem dL_about_3 : decode cL_about 3 = .ok (.aload_n 0, 1) := by decide +kernel
theorem dL_about_4 : decode cL_about 4 = .ok (.iload_n 1, 1) := by decide +kernel
theorem dL_about_5 : decode cL_about 5 = .ok (.iload_n 2, 1) := by decide +kernel
theorem dL_about_6 : decode cL_about 6 = .ok (.iload_n 3, 1) := by decide +kernel
theorem dL_about_7 : decode cL_about 7 = .ok (.invokevirtual 74, 3) := by decide +kernel
theorem dL_about_10 : decode cL_about 10 = .ok (.i2l, 1) := by decide +kernel
theorem dL_about_11 : decode cL_about 11 = .ok (.lastore, 1) := by decide +kernel
theorem dL_about_12 : decode cL_about 12 = .ok (.goto 11, 3) := by decide +kernel
theorem dL_about_15 : decode cL_about 15 = .ok (.astore 5, 2) := by decide +kernel
theorem dL_about_17 : decode cL_about 17 = .ok (.iconst 1, 1) := by decide +kernel
theorem dL_about_18 : decode cL_about 18 = .ok (.ireturn, 1) := by decide +kernel
theorem dL_about_19 : decode cL_about 19 = .ok (.astore 5, 2) := by decide +kernel
theorem dL_about_21 : decode cL_about 21 = .ok (.iconst 2, 1) := by decide +kernel
theorem dL_about_22 : decode cL_about 22 = .ok (.ireturn, 1) := by decide +kernel
theorem dL_about_23 : decode cL_about 23 = .ok (.iconst 0, 1) := by decide +kernel
theorem dL_about_24 : decode cL_about 24 = .ok (.ireturn, 1) := by decide +kernel
set_option maxRecDepth 20000 in
theorem ggL_count_X2_count : GoodIn wsL_count wsX2_count := goodIn_ca (goodIn_r _ [6, 7, 8, 9, 10, 11, 12, 13, 14, 15, 16, 5, 17, 18, 19, 20, 21, 22, 23, 24, 25, 26, 27, 28, 29, 30, 31, 32, 33, 34, 35, 36, 37, 38, 39, 40, 41, 42, 43, 44, 45, 46, 47, 48, 49, 50, 51, 52, 53, 54, 55, 56, 57, 58, 59, 60, 61, 62, 63, 64, 65, 66, 67, 68, 69, 70, 71, 72, 73, 74, 75, 76, 77, 78, 79, 80, 81, 82, 83, 84, 85, 86, 87, 88, 89, 90, 91, 92, 93, 94, 95, 96, 97, 98, 99, 100, 101, 102, 103, 104, 105, 106, 107, 108, 109, 110, 111, 112, 113, 114, 115, 116, 117, 118, 119, 120, 121, 122, 123, 124, 125, 126, 127, 128, 129, 130, 131, 132, 133, 134, 135, 136, 137, 138, 139, 140, 141, 142, 143, 144, 145, 146, 147, 148, 149, 150, 151, 152, 153, 154, 155, 156, 157, 158, 159, 160] (by decide +kernel) (by decide +kernel)) (goodIn_sub (fun _ h => List.mem_cons_of_mem _ (List.mem_append_right _ h)) (by decide +kernel))
set_option maxRecDepth 20000 in
theorem gL_count_X2_count : GoodIn wsL_count (wsV RL 78 RX2 yX2_count wsX2_count) := goodIn_app (goodIn_of _ (by decide +kernel)) ggL_count_X2_count
theorem dL_count_0 : decode cL_count 0 = .ok (.aload_n 2, 1) := by decide +kernel
theorem dL_count_1 : decode cL_count 1 = .ok (.iconst 0, 1) := by decide +kernel
theorem dL_count_2 : decode cL_count 2 = .ok (.aload_n 0, 1) := by decide +kernel
theorem dL_count_3 : decode cL_count 3 = .ok (.iload_n 1, 1) := by decide +kernel
theorem dL_count_4 : decode cL_count 4 = .ok (.invokevirtual 78, 3) := by decide +kernel
theorem dL_count_7 : decode cL_count 7 = .ok (.i2l, 1) := by decide +kernel
theorem dL_count_8 : decode cL_count 8 = .ok (.lastore, 1) := by decide +kernel
theorem dL_count_9 : decode cL_count 9 = .ok (.goto 6, 3) := by decide +kernel
theorem dL_count_12 : decode cL_count 12 = .ok (.astore_n 3, 1) := by decide +kernel
theorem dL_count_13 : decode cL_count 13 = .ok (.iconst 1, 1) := by decide +kernel
theorem dL_count_14 : decode cL_count 14 = .ok (.ireturn, 1) := by decide +kernel
theorem dL_count_15 : decode cL_count 15 = .ok (.iconst 0, 1) := by decide +kernel
theorem dL_count_16 : decode cL_count 16 = .ok (.ireturn, 1) := by decide +kernel
