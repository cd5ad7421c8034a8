theorem dX2_init_0 : decode cX2_init 0 = .ok (.aload_n 0, 1) := by decide +kernel
theorem dX2_init_1 : decode cX2_init 1 = .ok (.invokespecial 3, 3) := by decide +kernel
theorem dX2_init_4 : decode cX2_init 4 = .ok (.aload_n 0, 1) := by decide +kernel
theorem dX2_init_5 : decode cX2_init 5 = .ok (.new 9, 3) := by decide +kernel
theorem dX2_init_8 : decode cX2_init 8 = .ok (.dup, 1) := by decide +kernel
theorem dX2_init_9 : decode cX2_init 9 = .ok (.invokespecial 11, 3) := by decide +kernel
theorem dX2_init_12 : decode cX2_init 12 = .ok (.putfield 12, 3) := by decide +kernel
theorem dX2_init_15 : decode cX2_init 15 = .ok (.aload_n 0, 1) := by decide +kernel
theorem dX2_init_16 : decode cX2_init 16 = .ok (.new 9, 3) := by decide +kernel
theorem dX2_init_19 : decode cX2_init 19 = .ok (.dup, 1) := by decide +kernel
theorem dX2_init_20 : decode cX2_init 20 = .ok (.invokespecial 11, 3) := by decide +kernel
theorem dX2_init_23 : decode cX2_init 23 = .ok (.putfield 16, 3) := by decide +kernel
theorem dX2_init_26 : decode cX2_init 26 = .ok (.aload_n 0, 1) := by decide +kernel
theorem dX2_init_27 : decode cX2_init 27 = .ok (.bipush 25, 2) := by decide +kernel
theorem dX2_init_29 : decode cX2_init 29 = .ok (.newarray .int, 2) := by decide +kernel
theorem dX2_init_31 : decode cX2_init 31 = .ok (.putfield 19, 3) := by decide +kernel
theorem dX2_init_34 : decode cX2_init 34 = .ok (.aload_n 0, 1) := by decide +kernel
theorem dX2_init_35 : decode cX2_init 35 = .ok (.bipush 25, 2) := by decide +kernel
theorem dX2_init_37 : decode cX2_init 37 = .ok (.newarray .int, 2) := by decide +kernel
theorem dX2_init_39 : decode cX2_init 39 = .ok (.putfield 23, 3) := by decide +kernel
theorem dX2_init_42 : decode cX2_init 42 = .ok (.aload_n 0, 1) := by decide +kernel
theorem dX2_init_43 : decode cX2_init 43 = .ok (.bipush 25, 2) := by decide +kernel
theorem dX2_init_45 : decode cX2_init 45 = .ok (.newarray .int, 2) := by decide +kernel
theorem dX2_init_47 : decode cX2_init 47 = .ok (.putfield 26, 3) := by decide +kernel
theorem dX2_init_50 : decode cX2_init 50 = .ok (.aload_n 0, 1) := by decide +kernel
theorem dX2_init_51 : decode cX2_init 51 = .ok (.sipush 200, 3) := by decide +kernel
theorem dX2_init_54 : decode cX2_init 54 = .ok (.newarray .int, 2) := by decide +kernel
theorem dX2_init_56 : decode cX2_init 56 = .ok (.putfield 29, 3) := by decide +kernel
theorem dX2_init_59 : decode cX2_init 59 = .ok (.aload_n 0, 1) := by decide +kernel
theorem dX2_init_60 : decode cX2_init 60 = .ok (.iconst 5, 1) := by decide +kernel
theorem dX2_init_61 : decode cX2_init 61 = .ok (.newarray .int, 2) := by decide +kernel
theorem dX2_init_63 : decode cX2_init 63 = .ok (.putfield 32, 3) := by decide +kernel
theorem dX2_init_66 : decode cX2_init 66 = .ok (.aload_n 0, 1) := by decide +kernel
theorem dX2_init_67 : decode cX2_init 67 = .ok (.iconst 5, 1) := by decide +kernel
theorem dX2_init_68 : decode cX2_init 68 = .ok (.newarray .int, 2) := by decide +kernel
theorem dX2_init_70 : decode cX2_init 70 = .ok (.putfield 35, 3) := by decide +kernel
theorem dX2_init_73 : decode cX2_init 73 = .ok (.aload_n 0, 1) := by decide +kernel
theorem dX2_init_74 : decode cX2_init 74 = .ok (.new 38, 3) := by decide +kernel
theorem dX2_init_77 : decode cX2_init 77 = .ok (.dup, 1) := by decide +kernel
theorem dX2_init_78 : decode cX2_init 78 = .ok (.invokespecial 40, 3) := by decide +kernel
theorem dX2_init_81 : decode cX2_init 81 = .ok (.putfield 41, 3) := by decide +kernel
theorem dX2_init_84 : decode cX2_init 84 = .ok (.aload_n 0, 1) := by decide +kernel
theorem dX2_init_85 : decode cX2_init 85 = .ok (.new 38, 3) := by decide +kernel
theorem dX2_init_88 : decode cX2_init 88 = .ok (.dup, 1) := by decide +kernel
theorem dX2_init_89 : decode cX2_init 89 = .ok (.invokespecial 40, 3) := by decide +kernel
theorem dX2_init_92 : decode cX2_init 92 = .ok (.putfield 45, 3) := by decide +kernel
theorem dX2_init_95 : decode cX2_init 95 = .ok (.aload_n 0, 1) := by decide +kernel
theorem dX2_init_96 : decode cX2_init 96 = .ok (.iconst 0, 1) := by decide +kernel
theorem dX2_init_97 : decode cX2_init 97 = .ok (.putfield 48, 3) := by decide +kernel
theorem dX2_init_100 : decode cX2_init 100 = .ok (.aload_n 0, 1) := by decide +kernel
theorem dX2_init_101 : decode cX2_init 101 = .ok (.iconst 0, 1) := by decide +kernel
theorem dX2_init_102 : decode cX2_init 102 = .ok (.putfield 52, 3) := by decide +kernel
theorem dX2_init_105 : decode cX2_init 105 = .ok (.aload_n 0, 1) := by decide +kernel
theorem dX2_init_106 : decode cX2_init 106 = .ok (.sipush 1000, 3) := by decide +kernel
theorem dX2_init_109 : decode cX2_init 109 = .ok (.putfield 55, 3) := by decide +kernel
theorem dX2_init_112 : decode cX2_init 112 = .ok (.aload_n 0, 1) := by decide +kernel
theorem dX2_init_113 : decode cX2_init 113 = .ok (.sipush 1000, 3) := by decide +kernel
theorem dX2_init_116 : decode cX2_init 116 = .ok (.putfield 58, 3) := by decide +kernel
theorem dX2_init_119 : decode cX2_init 119 = .ok (.aload_n 0, 1) := by decide +kernel
theorem dX2_init_120 : decode cX2_init 120 = .ok (.iconst 0, 1) := by decide +kernel
theorem dX2_init_121 : decode cX2_init 121 = .ok (.putfield 61, 3) := by decide +kernel
theorem dX2_init_124 : decode cX2_init 124 = .ok (.aload_n 0, 1) := by decide +kernel
theorem dX2_init_125 : decode cX2_init 125 = .ok (.getfield 19, 3) := by decide +kernel
theorem dX2_init_128 : decode cX2_init 128 = .ok (.iconst (-1), 1) := by decide +kernel
theorem dX2_init_129 : decode cX2_init 129 = .ok (.invokestatic 65, 3) := by decide +kernel
theorem dX2_init_132 : decode cX2_init 132 = .ok (.aload_n 0, 1) := by decide +kernel
theorem dX2_init_133 : decode cX2_init 133 = .ok (.getfield 23, 3) := by decide +kernel
theorem dX2_init_136 : decode cX2_init 136 = .ok (.iconst (-1), 1) := by decide +kernel
theorem dX2_init_137 : decode cX2_init 137 = .ok (.invokestatic 65, 3) := by decide +kernel
theorem dX2_init_140 : decode cX2_init 140 = .ok (.return_, 1) := by decide +kernel
set_option maxRecDepth 20000 in
theorem ggX2_heap_X2_addTo : GoodIn wsX2_heap wsX2_addTo := goodIn_ca (goodIn_ca (goodIn_r _ [6, 7, 8, 9, 10, 11, 5, 12, 13, 14, 15, 16, 17, 18, 19, 20, 21, 22, 23, 24, 25, 26, 27, 28, 29, 30, 31, 32, 33, 34, 35, 36, 37, 38, 39, 40, 41, 42, 43, 44, 45, 46, 47, 48] (by decide +kernel) (by decide +kernel)) (goodIn_sub (fun _ h => List.mem_cons_of_mem _ (List.mem_append_left _ (List.mem_append_right _ h))) (by decide +kernel))) (goodIn_sub (fun _ h => List.mem_cons_of_mem _ (List.mem_append_right _ h)) (by decide +kernel))
set_option maxRecDepth 20000 in
theorem gX2_heap_X2_addTo : GoodIn wsX2_heap (wsV RX2 71 RX2 yX2_addTo wsX2_addTo) := goodIn_app (goodIn_of _ (by decide +kernel)) ggX2_heap_X2_addTo
theorem dX2_heap_0 : decode cX2_heap 0 = .ok (.aload_n 0, 1) := by decide +kernel
theorem dX2_heap_1 : decode cX2_heap 1 = .ok (.aload_n 0, 1) := by decide +kernel
theorem dX2_heap_2 : decode cX2_heap 2 = .ok (.getfield 12, 3) := by decide +kernel
theorem dX2_heap_5 : decode cX2_heap 5 = .ok (.iload_n 1, 1) := by decide +kernel
theorem dX2_heap_6 : decode cX2_heap 6 = .ok (.iload_n 2, 1) := by decide +kernel
theorem dX2_heap_7 : decode cX2_heap 7 = .ok (.invokevirtual 71, 3) := by decide +kernel
theorem dX2_heap_10 : decode cX2_heap 10 = .ok (.ireturn, 1) := by decide +kernel
set_option maxRecDepth 20000 in
theorem ggX2_hole_X2_addTo : GoodIn wsX2_hole wsX2_addTo := goodIn_ca (goodIn_ca (goodIn_r _ [6, 7, 8, 9, 10, 11, 5, 12, 13, 14, 15, 16, 17, 18, 19, 20, 21, 22, 23, 24, 25, 26, 27, 28, 29, 30, 31, 32, 33, 34, 35, 36, 37, 38, 39, 40, 41, 42, 43, 44, 45, 46, 47, 48] (by decide +kernel) (by decide +kernel)) (goodIn_sub (fun _ h => List.mem_cons_of_mem _ (List.mem_append_left _ (List.mem_append_right _ h))) (by decide +kernel))) (goodIn_sub (fun _ h => List.mem_cons_of_mem _ (List.mem_append_right _ h)) (by decide +kernel))
set_option maxRecDepth 20000 in
theorem gX2_hole_X2_addTo : GoodIn wsX2_hole (wsV RX2 71 RX2 yX2_addTo wsX2_addTo) := goodIn_app (goodIn_of _ (by decide +kernel)) ggX2_hole_X2_addTo
theorem dX2_hole_0 : decode cX2_hole 0 = .ok (.aload_n 0, 1) := by decide +kernel
theorem dX2_hole_1 : decode cX2_hole 1 = .ok (.aload_n 0, 1) := by decide +kernel
theorem dX2_hole_2 : decode cX2_hole 2 = .ok (.getfield 16, 3) := by decide +kernel
theorem dX2_hole_5 : decode cX2_hole 5 = .ok (.iload_n 1, 1) := by decide +kernel
theorem dX2_hole_6 : decode cX2_hole 6 = .ok (.iload_n 2, 1) := by decide +kernel
theorem dX2_hole_7 : decode cX2_hole 7 = .ok (.invokevirtual 71, 3) := by decide +kernel
theorem dX2_hole_10 : decode cX2_hole 10 = .ok (.ireturn, 1) := by decide +kernel
set_option maxRecDepth 20000 in
theorem ggX2_alter_X2_checkNumber : GoodIn wsX2_alter wsX2_checkNumber := goodIn_ca (goodIn_r _ [8, 9, 10, 11, 12, 13, 7, 14, 15, 16, 17, 18, 19, 20, 21, 22, 34, 35, 36, 37, 38, 39, 40, 41, 42, 43, 44, 45, 46, 47, 48, 31, 32, 33] (by decide +kernel) (by decide +kernel)) (goodIn_sub (fun _ h => List.mem_cons_of_mem _ (List.mem_append_left _ (List.mem_append_right _ h))) (by decide +kernel))
set_option maxRecDepth 20000 in
theorem gX2_alter_X2_checkNumber : GoodIn wsX2_alter (wsV RX2 75 RX2 yX2_checkNumber wsX2_checkNumber) := goodIn_app (goodIn_of _ (by decide +kernel)) ggX2_alter_X2_checkNumber
set_option maxRecDepth 20000 in
theorem ggX2_alter_X2_checkPlaceAndAmount : GoodIn wsX2_alter wsX2_checkPlaceAndAmount := goodIn_ca (goodIn_r _ [25, 26, 27, 7, 28, 29, 30] (by decide +kernel) (by decide +kernel)) (goodIn_sub (fun _ h => List.mem_cons_of_mem _ (List.mem_append_right _ h)) (by decide +kernel))
set_option maxRecDepth 20000 in
theorem gX2_alter_X2_checkPlaceAndAmount : GoodIn wsX2_alter (va_wsS RX2 79 yX2_checkPlaceAndAmount wsX2_checkPlaceAndAmount) := goodIn_app (goodIn_of _ (by decide +kernel)) ggX2_alter_X2_checkPlaceAndAmount
set_option maxRecDepth 20000 in
theorem ggX2_alter_X2_side : GoodIn wsX2_alter wsX2_side := goodIn_r _ [14, 15, 16, 34, 35, 36, 37, 38, 39, 40, 41, 42, 43, 44, 45, 46, 47, 48] (by decide +kernel) (by decide +kernel)
set_option maxRecDepth 20000 in
theorem gX2_alter_X2_side : GoodIn wsX2_alter (wsV RX2 83 RX2 yX2_side wsX2_side) := goodIn_app (goodIn_of _ (by decide +kernel)) ggX2_alter_X2_side
theorem dX2_alter_0 : decode cX2_alter 0 = .ok (.aload_n 0, 1) := by decide +kernel
theorem dX2_alter_1 : decode cX2_alter 1 = .ok (.iload_n 1, 1) := by decide +kernel
theorem dX2_alter_2 : decode cX2_alter 2 = .ok (.iload_n 2, 1) := by decide +kernel
theorem dX2_alter_3 : decode cX2_alter 3 = .ok (.invokevirtual 75, 3) := by decide +kernel
theorem dX2_alter_6 : decode cX2_alter 6 = .ok (.iload_n 3, 1) := by decide +kernel
theorem dX2_alter_7 : decode cX2_alter 7 = .ok (.iload 4, 2) := by decide +kernel
theorem dX2_alter_9 : decode cX2_alter 9 = .ok (.invokestatic 79, 3) := by decide +kernel
theorem dX2_alter_12 : decode cX2_alter 12 = .ok (.aload_n 0, 1) := by decide +kernel
theorem dX2_alter_13 : decode cX2_alter 13 = .ok (.iload_n 1, 1) := by decide +kernel
theorem dX2_alter_14 : decode cX2_alter 14 = .ok (.invokevirtual 83, 3) := by decide +kernel
theorem dX2_alter_17 : decode cX2_alter 17 = .ok (.astore 5, 2) := by decide +kernel
theorem dX2_alter_19 : decode cX2_alter 19 = .ok (.aload 5, 2) := by decide +kernel
theorem dX2_alter_21 : decode cX2_alter 21 = .ok (.getfield 87, 3) := by decide +kernel
theorem dX2_alter_24 : decode cX2_alter 24 = .ok (.iload_n 2, 1) := by decide +kernel
theorem dX2_alter_25 : decode cX2_alter 25 = .ok (.iaload, 1) := by decide +kernel
theorem dX2_alter_26 : decode cX2_alter 26 = .ok (.istore 6, 2) := by decide +kernel
theorem dX2_alter_28 : decode cX2_alter 28 = .ok (.aload 5, 2) := by decide +kernel
theorem dX2_alter_30 : decode cX2_alter 30 = .ok (.getfield 90, 3) := by decide +kernel
theorem dX2_alter_33 : decode cX2_alter 33 = .ok (.iload_n 2, 1) := by decide +kernel
theorem dX2_alter_34 : decode cX2_alter 34 = .ok (.iload_n 3, 1) := by decide +kernel
theorem dX2_alter_35 : decode cX2_alter 35 = .ok (.iastore, 1) := by decide +kernel
theorem dX2_alter_36 : decode cX2_alter 36 = .ok (.aload 5, 2) := by decide +kernel
theorem dX2_alter_38 : decode cX2_alter 38 = .ok (.getfield 87, 3) := by decide +kernel
theorem dX2_alter_41 : decode cX2_alter 41 = .ok (.iload_n 2, 1) := by decide +kernel
theorem dX2_alter_42 : decode cX2_alter 42 = .ok (.iload 4, 2) := by decide +kernel
theorem dX2_alter_44 : decode cX2_alter 44 = .ok (.iastore, 1) := by decide +kernel
theorem dX2_alter_45 : decode cX2_alter 45 = .ok (.aload_n 0, 1) := by decide +kernel
theorem dX2_alter_46 : decode cX2_alter 46 = .ok (.iconst 0, 1) := by decide +kernel
theorem dX2_alter_47 : decode cX2_alter 47 = .ok (.putfield 61, 3) := by decide +kernel
theorem dX2_alter_50 : decode cX2_alter 50 = .ok (.iload 6, 2) := by decide +kernel
theorem dX2_alter_52 : decode cX2_alter 52 = .ok (.ireturn, 1) := by decide +kernel
set_option maxRecDepth 20000 in
theorem ggX2_measure_X2_checkRange : GoodIn wsX2_measure wsX2_checkRange := goodIn_ca (goodIn_r _ [7, 8, 9] (by decide +kernel) (by decide +kernel)) (goodIn_sub (fun _ h => List.mem_cons_of_mem _ (List.mem_append_right _ h)) (by decide +kernel))
set_option maxRecDepth 20000 in
theorem gX2_measure_X2_checkRange : GoodIn wsX2_measure (va_wsS RX2 93 yX2_checkRange wsX2_checkRange) := goodIn_app (goodIn_of _ (by decide +kernel)) ggX2_measure_X2_checkRange
theorem dX2_measure_0 : decode cX2_measure 0 = .ok (.iload_n 1, 1) := by decide +kernel
theorem dX2_measure_1 : decode cX2_measure 1 = .ok (.iconst 0, 1) := by decide +kernel
theorem dX2_measure_2 : decode cX2_measure 2 = .ok (.iconst 2, 1) := by decide +kernel
theorem dX2_measure_3 : decode cX2_measure 3 = .ok (.invokestatic 93, 3) := by decide +kernel
theorem dX2_measure_6 : decode cX2_measure 6 = .ok (.iload_n 1, 1) := by decide +kernel
theorem dX2_measure_7 : decode cX2_measure 7 = .ok (.iconst 2, 1) := by decide +kernel
theorem dX2_measure_8 : decode cX2_measure 8 = .ok (.if_icmp .ne 16, 3) := by decide +kernel
theorem dX2_measure_11 : decode cX2_measure 11 = .ok (.iload_n 2, 1) := by decide +kernel
theorem dX2_measure_12 : decode cX2_measure 12 = .ok (.iconst 1, 1) := by decide +kernel
theorem dX2_measure_13 : decode cX2_measure 13 = .ok (.sipush 200, 3) := by decide +kernel
theorem dX2_measure_16 : decode cX2_measure 16 = .ok (.invokestatic 93, 3) := by decide +kernel
theorem dX2_measure_19 : decode cX2_measure 19 = .ok (.aload_n 0, 1) := by decide +kernel
theorem dX2_measure_20 : decode cX2_measure 20 = .ok (.iload_n 2, 1) := by decide +kernel
theorem dX2_measure_21 : decode cX2_measure 21 = .ok (.putfield 52, 3) := by decide +kernel
theorem dX2_measure_24 : decode cX2_measure 24 = .ok (.aload_n 0, 1) := by decide +kernel
theorem dX2_measure_25 : decode cX2_measure 25 = .ok (.getfield 48, 3) := by decide +kernel
theorem dX2_measure_28 : decode cX2_measure 28 = .ok (.istore_n 3, 1) := by decide +kernel
theorem dX2_measure_29 : decode cX2_measure 29 = .ok (.aload_n 0, 1) := by decide +kernel
theorem dX2_measure_30 : decode cX2_measure 30 = .ok (.iload_n 1, 1) := by decide +kernel
theorem dX2_measure_31 : decode cX2_measure 31 = .ok (.putfield 48, 3) := by decide +kernel
theorem dX2_measure_34 : decode cX2_measure 34 = .ok (.aload_n 0, 1) := by decide +kernel
theorem dX2_measure_35 : decode cX2_measure 35 = .ok (.iconst 0, 1) := by decide +kernel
theorem dX2_measure_36 : decode cX2_measure 36 = .ok (.putfield 61, 3) := by decide +kernel
theorem dX2_measure_39 : decode cX2_measure 39 = .ok (.iload_n 3, 1) := by decide +kernel
theorem dX2_measure_40 : decode cX2_measure 40 = .ok (.ireturn, 1) := by decide +kernel
set_option maxRecDepth 20000 in
theorem ggX2_own_X2_checkWay : GoodIn wsX2_own wsX2_checkWay := goodIn_ca (goodIn_r _ [7, 8, 9, 10, 6, 11, 12, 13, 14, 15, 16, 17, 18, 19, 20, 21, 22, 23, 24, 25, 37, 38, 39, 40, 41, 42, 43, 44, 45, 46, 47, 48, 49, 50, 51, 52, 53, 54] (by decide +kernel) (by decide +kernel)) (goodIn_sub (fun _ h => List.mem_cons_of_mem _ (List.mem_append_left _ (List.mem_append_right _ h))) (by decide +kernel))
set_option maxRecDepth 20000 in
theorem gX2_own_X2_checkWay : GoodIn wsX2_own (wsV RX2 97 RX2 yX2_checkWay wsX2_checkWay) := goodIn_app (goodIn_of _ (by decide +kernel)) ggX2_own_X2_checkWay
set_option maxRecDepth 20000 in
theorem ggX2_own_X2_checkRange : GoodIn wsX2_own wsX2_checkRange := goodIn_ca (goodIn_r _ [28, 29, 30] (by decide +kernel) (by decide +kernel)) (goodIn_sub (fun _ h => List.mem_cons_of_mem _ (List.mem_append_right _ h)) (by decide +kernel))
set_option maxRecDepth 20000 in
theorem gX2_own_X2_checkRange : GoodIn wsX2_own (va_wsS RX2 93 yX2_checkRange wsX2_checkRange) := goodIn_app (goodIn_of _ (by decide +kernel)) ggX2_own_X2_checkRange
set_option maxRecDepth 20000 in
theorem ggX2_own_X2_wayOf : GoodIn wsX2_own wsX2_wayOf := goodIn_r _ [33] (by decide +kernel) (by decide +kernel)
set_option maxRecDepth 20000 in
theorem gX2_own_X2_wayOf : GoodIn wsX2_own (va_wsS RX2 100 yX2_wayOf wsX2_wayOf) := goodIn_app (goodIn_of _ (by decide +kernel)) ggX2_own_X2_wayOf
set_option maxRecDepth 20000 in
theorem ggX2_own_X2_tell : GoodIn wsX2_own wsX2_tell := goodIn_r _ [36] (by decide +kernel) (by decide +kernel)
set_option maxRecDepth 20000 in
theorem gX2_own_X2_tell : GoodIn wsX2_own (va_wsS RX2 104 yX2_tell wsX2_tell) := goodIn_app (goodIn_of _ (by decide +kernel)) ggX2_own_X2_tell
theorem dX2_own_0 : decode cX2_own 0 = .ok (.aload_n 0, 1) := by decide +kernel
theorem dX2_own_1 : decode cX2_own 1 = .ok (.iload_n 1, 1) := by decide +kernel
theorem dX2_own_2 : decode cX2_own 2 = .ok (.iload_n 2, 1) := by decide +kernel
theorem dX2_own_3 : decode cX2_own 3 = .ok (.invokevirtual 97, 3) := by decide +kernel
theorem dX2_own_6 : decode cX2_own 6 = .ok (.iload_n 3, 1) := by decide +kernel
theorem dX2_own_7 : decode cX2_own 7 = .ok (.iconst (-1), 1) := by decide +kernel
theorem dX2_own_8 : decode cX2_own 8 = .ok (.sipush 10000, 3) := by decide +kernel
theorem dX2_own_11 : decode cX2_own 11 = .ok (.invokestatic 93, 3) := by decide +kernel
theorem dX2_own_14 : decode cX2_own 14 = .ok (.aload_n 0, 1) := by decide +kernel
theorem dX2_own_15 : decode cX2_own 15 = .ok (.iconst 0, 1) := by decide +kernel
theorem dX2_own_16 : decode cX2_own 16 = .ok (.putfield 61, 3) := by decide +kernel
theorem dX2_own_19 : decode cX2_own 19 = .ok (.aload_n 0, 1) := by decide +kernel
theorem dX2_own_20 : decode cX2_own 20 = .ok (.getfield 19, 3) := by decide +kernel
theorem dX2_own_23 : decode cX2_own 23 = .ok (.iload_n 1, 1) := by decide +kernel
theorem dX2_own_24 : decode cX2_own 24 = .ok (.iload_n 2, 1) := by decide +kernel
theorem dX2_own_25 : decode cX2_own 25 = .ok (.invokestatic 100, 3) := by decide +kernel
theorem dX2_own_28 : decode cX2_own 28 = .ok (.iload_n 3, 1) := by decide +kernel
theorem dX2_own_29 : decode cX2_own 29 = .ok (.invokestatic 104, 3) := by decide +kernel
theorem dX2_own_32 : decode cX2_own 32 = .ok (.ireturn, 1) := by decide +kernel
set_option maxRecDepth 20000 in
theorem ggX2_cap_X2_checkWay : GoodIn wsX2_cap wsX2_checkWay := goodIn_ca (goodIn_r _ [7, 8, 9, 10, 6, 11, 12, 13, 14, 15, 16, 17, 18, 19, 20, 21, 22, 23, 24, 25, 37, 38, 39, 40, 41, 42, 43, 44, 45, 46, 47, 48, 49, 50, 51, 52, 53, 54] (by decide +kernel) (by decide +kernel)) (goodIn_sub (fun _ h => List.mem_cons_of_mem _ (List.mem_append_left _ (List.mem_append_right _ h))) (by decide +kernel))
set_option maxRecDepth 20000 in
theorem gX2_cap_X2_checkWay : GoodIn wsX2_cap (wsV RX2 97 RX2 yX2_checkWay wsX2_checkWay) := goodIn_app (goodIn_of _ (by decide +kernel)) ggX2_cap_X2_checkWay
set_option maxRecDepth 20000 in
theorem ggX2_cap_X2_checkRange : GoodIn wsX2_cap wsX2_checkRange := goodIn_ca (goodIn_r _ [28, 29, 30] (by decide +kernel) (by decide +kernel)) (goodIn_sub (fun _ h => List.mem_cons_of_mem _ (List.mem_append_right _ h)) (by decide +kernel))
set_option maxRecDepth 20000 in
theorem gX2_cap_X2_checkRange : GoodIn wsX2_cap (va_wsS RX2 93 yX2_checkRange wsX2_checkRange) := goodIn_app (goodIn_of _ (by decide +kernel)) ggX2_cap_X2_checkRange
set_option maxRecDepth 20000 in
theorem ggX2_cap_X2_wayOf : GoodIn wsX2_cap wsX2_wayOf := goodIn_r _ [33] (by decide +kernel) (by decide +kernel)
set_option maxRecDepth 20000 in
theorem gX2_cap_X2_wayOf : GoodIn wsX2_cap (va_wsS RX2 100 yX2_wayOf wsX2_wayOf) := goodIn_app (goodIn_of _ (by decide +kernel)) ggX2_cap_X2_wayOf
set_option maxRecDepth 20000 in
theorem ggX2_cap_X2_tell : GoodIn wsX2_cap wsX2_tell := goodIn_r _ [36] (by decide +kernel) (by decide +kernel)
set_option maxRecDepth 20000 in
theorem gX2_cap_X2_tell : GoodIn wsX2_cap (va_wsS RX2 104 yX2_tell wsX2_tell) := goodIn_app (goodIn_of _ (by decide +kernel)) ggX2_cap_X2_tell
theorem dX2_cap_0 : decode cX2_cap 0 = .ok (.aload_n 0, 1) := by decide +kernel
theorem dX2_cap_1 : decode cX2_cap 1 = .ok (.iload_n 1, 1) := by decide +kernel
theorem dX2_cap_2 : decode cX2_cap 2 = .ok (.iload_n 2, 1) := by decide +kernel
theorem dX2_cap_3 : decode cX2_cap 3 = .ok (.invokevirtual 97, 3) := by decide +kernel
theorem dX2_cap_6 : decode cX2_cap 6 = .ok (.iload_n 3, 1) := by decide +kernel
theorem dX2_cap_7 : decode cX2_cap 7 = .ok (.iconst (-1), 1) := by decide +kernel
theorem dX2_cap_8 : decode cX2_cap 8 = .ok (.bipush 20, 2) := by decide +kernel
theorem dX2_cap_10 : decode cX2_cap 10 = .ok (.invokestatic 93, 3) := by decide +kernel
theorem dX2_cap_13 : decode cX2_cap 13 = .ok (.aload_n 0, 1) := by decide +kernel
theorem dX2_cap_14 : decode cX2_cap 14 = .ok (.iconst 0, 1) := by decide +kernel
theorem dX2_cap_15 : decode cX2_cap 15 = .ok (.putfield 61, 3) := by decide +kernel
theorem dX2_cap_18 : decode cX2_cap 18 = .ok (.aload_n 0, 1) := by decide +kernel
theorem dX2_cap_19 : decode cX2_cap 19 = .ok (.getfield 23, 3) := by decide +kernel
theorem dX2_cap_22 : decode cX2_cap 22 = .ok (.iload_n 1, 1) := by decide +kernel
theorem dX2_cap_23 : decode cX2_cap 23 = .ok (.iload_n 2, 1) := by decide +kernel
theorem dX2_cap_24 : decode cX2_cap 24 = .ok (.invokestatic 100, 3) := by decide +kernel
theorem dX2_cap_27 : decode cX2_cap 27 = .ok (.iload_n 3, 1) := by decide +kernel
theorem dX2_cap_28 : decode cX2_cap 28 = .ok (.invokestatic 104, 3) := by decide +kernel
theorem dX2_cap_31 : decode cX2_cap 31 = .ok (.ireturn, 1) := by decide +kernel
set_option maxRecDepth 20000 in
theorem ggX2_terms_X2_checkRange : GoodIn wsX2_terms wsX2_checkRange := goodIn_ca (goodIn_r _ [7, 8, 9] (by decide +kernel) (by decide +kernel)) (goodIn_sub (fun _ h => List.mem_cons_of_mem _ (List.mem_append_right _ h)) (by decide +kernel))
set_option maxRecDepth 20000 in
theorem gX2_terms_X2_checkRange : GoodIn wsX2_terms (va_wsS RX2 93 yX2_checkRange wsX2_checkRange) := goodIn_app (goodIn_of _ (by decide +kernel)) ggX2_terms_X2_checkRange
theorem dX2_terms_0 : decode cX2_terms 0 = .ok (.iload_n 1, 1) := by decide +kernel
theorem dX2_terms_1 : decode cX2_terms 1 = .ok (.iconst 0, 1) := by decide +kernel
theorem dX2_terms_2 : decode cX2_terms 2 = .ok (.sipush 10000, 3) := by decide +kernel
theorem dX2_terms_5 : decode cX2_terms 5 = .ok (.invokestatic 93, 3) := by decide +kernel
theorem dX2_terms_8 : decode cX2_terms 8 = .ok (.iload_n 2, 1) := by decide +kernel
theorem dX2_terms_9 : decode cX2_terms 9 = .ok (.iconst 0, 1) := by decide +kernel
theorem dX2_terms_10 : decode cX2_terms 10 = .ok (.sipush 10000, 3) := by decide +kernel
theorem dX2_terms_13 : decode cX2_terms 13 = .ok (.invokestatic 93, 3) := by decide +kernel
theorem dX2_terms_16 : decode cX2_terms 16 = .ok (.aload_n 0, 1) := by decide +kernel
theorem dX2_terms_17 : decode cX2_terms 17 = .ok (.getfield 55, 3) := by decide +kernel
theorem dX2_terms_20 : decode cX2_terms 20 = .ok (.istore_n 3, 1) := by decide +kernel
theorem dX2_terms_21 : decode cX2_terms 21 = .ok (.aload_n 0, 1) := by decide +kernel
theorem dX2_terms_22 : decode cX2_terms 22 = .ok (.iload_n 1, 1) := by decide +kernel
theorem dX2_terms_23 : decode cX2_terms 23 = .ok (.putfield 55, 3) := by decide +kernel
theorem dX2_terms_26 : decode cX2_terms 26 = .ok (.aload_n 0, 1) := by decide +kernel
theorem dX2_terms_27 : decode cX2_terms 27 = .ok (.iload_n 2, 1) := by decide +kernel
theorem dX2_terms_28 : decode cX2_terms 28 = .ok (.putfield 58, 3) := by decide +kernel
theorem dX2_terms_31 : decode cX2_terms 31 = .ok (.aload_n 0, 1) := by decide +kernel
theorem dX2_terms_32 : decode cX2_terms 32 = .ok (.iconst 0, 1) := by decide +kernel
theorem dX2_terms_33 : decode cX2_terms 33 = .ok (.putfield 61, 3) := by decide +kernel
theorem dX2_terms_36 : decode cX2_terms 36 = .ok (.iload_n 3, 1) := by decide +kernel
theorem dX2_terms_37 : decode cX2_terms 37 = .ok (.ireturn, 1) := by decide +kernel
set_option maxRecDepth 20000 in
theorem ggX2_unit_X2_checkWay : GoodIn wsX2_unit wsX2_checkWay := goodIn_ca (goodIn_r _ [5, 6, 7, 8, 4, 9, 10, 11, 12, 13, 14, 15, 16, 17, 18, 19, 20, 21, 22, 23, 46, 47, 48, 49, 50, 51, 52, 53, 54, 55, 56, 57, 58, 59, 60, 61, 62, 63] (by decide +kernel) (by decide +kernel)) (goodIn_sub (fun _ h => List.mem_cons_of_mem _ (List.mem_append_right _ h)) (by decide +kernel))
set_option maxRecDepth 20000 in
theorem gX2_unit_X2_checkWay : GoodIn wsX2_unit (wsV RX2 97 RX2 yX2_checkWay wsX2_checkWay) := goodIn_app (goodIn_of _ (by decide +kernel)) ggX2_unit_X2_checkWay
set_option maxRecDepth 20000 in
theorem ggX2_unit_X2_unitCost : GoodIn wsX2_unit wsX2_unitCost := goodIn_r _ [27, 28, 17, 29, 16, 30, 31, 4, 32, 33, 34, 35, 36, 37, 38, 39, 40, 41, 42, 43, 44, 45, 46, 47, 48, 49, 50, 51, 52, 53, 54, 55, 56, 57, 58, 59, 60, 61, 62, 63] (by decide +kernel) (by decide +kernel)
set_option maxRecDepth 20000 in
theorem gX2_unit_X2_unitCost : GoodIn wsX2_unit (wsV RX2 108 RX2 yX2_unitCost wsX2_unitCost) := goodIn_app (goodIn_of _ (by decide +kernel)) ggX2_unit_X2_unitCost
theorem dX2_unit_0 : decode cX2_unit 0 = .ok (.aload_n 0, 1) := by decide +kernel
theorem dX2_unit_1 : decode cX2_unit 1 = .ok (.iload_n 1, 1) := by decide +kernel
theorem dX2_unit_2 : decode cX2_unit 2 = .ok (.iload_n 2, 1) := by decide +kernel
theorem dX2_unit_3 : decode cX2_unit 3 = .ok (.invokevirtual 97, 3) := by decide +kernel
theorem dX2_unit_6 : decode cX2_unit 6 = .ok (.aload_n 0, 1) := by decide +kernel
theorem dX2_unit_7 : decode cX2_unit 7 = .ok (.iload_n 1, 1) := by decide +kernel
theorem dX2_unit_8 : decode cX2_unit 8 = .ok (.iload_n 2, 1) := by decide +kernel
theorem dX2_unit_9 : decode cX2_unit 9 = .ok (.invokevirtual 108, 3) := by decide +kernel
theorem dX2_unit_12 : decode cX2_unit 12 = .ok (.ireturn, 1) := by decide +kernel
set_option maxRecDepth 20000 in
theorem ggX2_least_X2_planned : GoodIn wsX2_least wsX2_planned := goodIn_r _ [6, 7, 8, 9, 10, 11, 5, 12, 13, 14, 15, 16, 17, 18, 19, 20, 21, 22, 23, 24, 25, 26, 27, 28, 29, 30, 31, 32, 33, 34, 35, 36, 37, 38, 39, 40, 41, 42, 43, 44, 45, 46, 47, 48, 49, 50, 51, 52, 53, 54, 55, 56, 57, 58, 59, 60, 61, 62, 63, 64, 65, 66, 67, 68, 69, 70, 71, 72, 73, 74, 75, 76, 77, 78, 79, 80, 81, 82, 83, 84, 85, 86, 87, 88, 89, 90, 91, 92, 93, 94, 95, 96, 97, 98, 99, 100, 101, 102, 103, 104, 105, 106, 107, 108, 109, 110, 111, 112, 113, 114, 130, 131, 132, 133, 134, 135, 136, 137, 138, 139, 140, 141, 142, 143, 144, 145, 146, 147, 115, 116, 117, 118, 119, 120, 121, 122, 123, 124, 125, 126, 127, 128, 129] (by decide +kernel) (by decide +kernel)
set_option maxRecDepth 20000 in
theorem gX2_least_X2_planned : GoodIn wsX2_least (wsV RX2 111 RX2 yX2_planned wsX2_planned) := goodIn_app (goodIn_of _ (by decide +kernel)) ggX2_least_X2_planned
theorem dX2_least_0 : decode cX2_least 0 = .ok (.aload_n 0, 1) := by decide +kernel
theorem dX2_least_1 : decode cX2_least 1 = .ok (.invokevirtual 111, 3) := by decide +kernel
theorem dX2_least_4 : decode cX2_least 4 = .ok (.getfield 115, 3) := by decide +kernel
theorem dX2_least_7 : decode cX2_least 7 = .ok (.ireturn, 1) := by decide +kernel
set_option maxRecDepth 20000 in
theorem ggX2_leastAnew_X2_isTooMuchToTry : GoodIn wsX2_leastAnew wsX2_isTooMuchToTry := goodIn_r _ [13, 14, 15, 16, 17, 5, 6, 7, 8, 18, 19, 20, 12, 21, 83, 84, 85, 86, 87, 88, 89, 90, 91, 92, 93, 94, 95, 96, 97, 113, 114, 115] (by decide +kernel) (by decide +kernel)
set_option maxRecDepth 20000 in
theorem gX2_leastAnew_X2_isTooMuchToTry : GoodIn wsX2_leastAnew (wsV RX2 118 RX2 yX2_isTooMuchToTry wsX2_isTooMuchToTry) := goodIn_app (goodIn_of _ (by decide +kernel)) ggX2_leastAnew_X2_isTooMuchToTry
set_option maxRecDepth 20000 in
theorem ggX2_leastAnew_X2_layOut : GoodIn wsX2_leastAnew wsX2_layOut := goodIn_r _ [25, 26, 27, 14, 15, 17, 16, 18, 28, 29, 30, 31, 32, 33, 34, 35, 36, 37, 38, 39, 40, 41, 42, 43, 44, 45, 46, 47, 48, 49, 50, 51, 52, 19, 20, 12, 21, 53, 54, 55, 56, 57, 58, 59, 60, 61, 62, 63, 64, 7, 65, 66, 67, 5, 6, 8, 68, 69, 70, 71, 72, 73, 74, 83, 84, 85, 86, 87, 88, 89, 90, 91, 92, 93, 94, 95, 96, 97, 113, 114, 115, 98, 99, 100, 101, 102, 103, 104, 105, 106, 107, 108, 109, 110, 111, 112] (by decide +kernel) (by decide +kernel)
set_option maxRecDepth 20000 in
theorem gX2_leastAnew_X2_layOut : GoodIn wsX2_leastAnew (wsV RX2 129 RX2 yX2_layOut wsX2_layOut) := goodIn_app (goodIn_of _ (by decide +kernel)) ggX2_leastAnew_X2_layOut
set_option maxRecDepth 20000 in
theorem ggX2_leastAnew_X0_turnToNext : GoodIn wsX2_leastAnew wsX0_turnToNext := goodIn_r _ [78, 38, 72, 36, 33, 34, 35, 79, 80, 81, 31, 82, 37, 73, 39, 40, 20, 12, 21, 98, 99, 100, 101, 102, 103, 104, 105, 106, 107, 108, 109, 110, 111, 112] (by decide +kernel) (by decide +kernel)
set_option maxRecDepth 20000 in
theorem gX2_leastAnew_X0_turnToNext : GoodIn wsX2_leastAnew (wsV RX2 133 RX0 yX0_turnToNext wsX0_turnToNext) := goodIn_app (goodIn_of _ (by decide +kernel)) ggX2_leastAnew_X0_turnToNext
theorem dX2_leastAnew_0 : decode cX2_leastAnew 0 = .ok (.aload_n 0, 1) := by decide +kernel
theorem dX2_leastAnew_1 : decode cX2_leastAnew 1 = .ok (.invokevirtual 118, 3) := by decide +kernel
theorem dX2_leastAnew_4 : decode cX2_leastAnew 4 = .ok (.ifCond .eq 13, 3) := by decide +kernel
theorem dX2_leastAnew_7 : decode cX2_leastAnew 7 = .ok (.new 122, 3) := by decide +kernel
theorem dX2_leastAnew_10 : decode cX2_leastAnew 10 = .ok (.dup, 1) := by decide +kernel
theorem dX2_leastAnew_11 : decode cX2_leastAnew 11 = .ok (.ldc 124, 2) := by decide +kernel
theorem dX2_leastAnew_13 : decode cX2_leastAnew 13 = .ok (.invokespecial 126, 3) := by decide +kernel
theorem dX2_leastAnew_16 : decode cX2_leastAnew 16 = .ok (.athrow, 1) := by decide +kernel
theorem dX2_leastAnew_17 : decode cX2_leastAnew 17 = .ok (.aload_n 0, 1) := by decide +kernel
theorem dX2_leastAnew_18 : decode cX2_leastAnew 18 = .ok (.aload_n 0, 1) := by decide +kernel
theorem dX2_leastAnew_19 : decode cX2_leastAnew 19 = .ok (.getfield 45, 3) := by decide +kernel
theorem dX2_leastAnew_22 : decode cX2_leastAnew 22 = .ok (.invokevirtual 129, 3) := by decide +kernel
theorem dX2_leastAnew_25 : decode cX2_leastAnew 25 = .ok (.aload_n 0, 1) := by decide +kernel
theorem dX2_leastAnew_26 : decode cX2_leastAnew 26 = .ok (.getfield 45, 3) := by decide +kernel
theorem dX2_leastAnew_29 : decode cX2_leastAnew 29 = .ok (.getfield 115, 3) := by decide +kernel
theorem dX2_leastAnew_32 : decode cX2_leastAnew 32 = .ok (.istore_n 1, 1) := by decide +kernel
theorem dX2_leastAnew_33 : decode cX2_leastAnew 33 = .ok (.iconst 1, 1) := by decide +kernel
theorem dX2_leastAnew_34 : decode cX2_leastAnew 34 = .ok (.istore_n 2, 1) := by decide +kernel
theorem dX2_leastAnew_35 : decode cX2_leastAnew 35 = .ok (.iload_n 2, 1) := by decide +kernel
theorem dX2_leastAnew_36 : decode cX2_leastAnew 36 = .ok (.sipush 20000, 3) := by decide +kernel
theorem dX2_leastAnew_39 : decode cX2_leastAnew 39 = .ok (.if_icmp .ge 31, 3) := by decide +kernel
theorem dX2_leastAnew_42 : decode cX2_leastAnew 42 = .ok (.aload_n 0, 1) := by decide +kernel
theorem dX2_leastAnew_43 : decode cX2_leastAnew 43 = .ok (.getfield 45, 3) := by decide +kernel
theorem dX2_leastAnew_46 : decode cX2_leastAnew 46 = .ok (.invokevirtual 133, 3) := by decide +kernel
theorem dX2_leastAnew_49 : decode cX2_leastAnew 49 = .ok (.ifCond .eq 21, 3) := by decide +kernel
theorem dX2_leastAnew_52 : decode cX2_leastAnew 52 = .ok (.iload_n 1, 1) := by decide +kernel
theorem dX2_leastAnew_53 : decode cX2_leastAnew 53 = .ok (.aload_n 0, 1) := by decide +kernel
theorem dX2_leastAnew_54 : decode cX2_leastAnew 54 = .ok (.getfield 45, 3) := by decide +kernel
theorem dX2_leastAnew_57 : decode cX2_leastAnew 57 = .ok (.getfield 115, 3) := by decide +kernel
theorem dX2_leastAnew_60 : decode cX2_leastAnew 60 = .ok (.invokestatic 136, 3) := by decide +kernel
theorem dX2_leastAnew_63 : decode cX2_leastAnew 63 = .ok (.istore_n 1, 1) := by decide +kernel
theorem dX2_leastAnew_64 : decode cX2_leastAnew 64 = .ok (.iinc 2 1, 3) := by decide +kernel
theorem dX2_leastAnew_67 : decode cX2_leastAnew 67 = .ok (.goto (-32), 3) := by decide +kernel
theorem dX2_leastAnew_70 : decode cX2_leastAnew 70 = .ok (.iload_n 1, 1) := by decide +kernel
theorem dX2_leastAnew_71 : decode cX2_leastAnew 71 = .ok (.ireturn, 1) := by decide +kernel
set_option maxRecDepth 20000 in
theorem ggX2_carried_X2_checkWay : GoodIn wsX2_carried wsX2_checkWay := goodIn_ca (goodIn_r _ [6, 7, 8, 9, 5, 10, 11, 12, 13, 14, 15, 16, 17, 18, 19, 20, 21, 22, 23, 24, 150, 151, 152, 153, 154, 155, 156, 157, 158, 159, 160, 161, 162, 163, 164, 165, 166, 167] (by decide +kernel) (by decide +kernel)) (goodIn_sub (fun _ h => List.mem_cons_of_mem _ (List.mem_append_right _ h)) (by decide +kernel))
set_option maxRecDepth 20000 in
theorem gX2_carried_X2_checkWay : GoodIn wsX2_carried (wsV RX2 97 RX2 yX2_checkWay wsX2_checkWay) := goodIn_app (goodIn_of _ (by decide +kernel)) ggX2_carried_X2_checkWay
set_option maxRecDepth 20000 in
theorem ggX2_carried_X2_planned : GoodIn wsX2_carried wsX2_planned := goodIn_r _ [28, 29, 30, 31, 32, 33, 5, 34, 35, 36, 18, 37, 38, 17, 39, 40, 41, 42, 43, 44, 45, 46, 47, 48, 49, 50, 51, 52, 53, 54, 55, 56, 57, 58, 59, 60, 61, 62, 63, 64, 65, 66, 67, 68, 69, 70, 71, 72, 73, 74, 75, 76, 77, 78, 79, 80, 81, 82, 83, 84, 85, 86, 87, 88, 89, 90, 91, 92, 93, 94, 95, 96, 97, 98, 99, 100, 101, 102, 103, 104, 105, 106, 107, 108, 109, 110, 111, 112, 113, 114, 115, 116, 117, 118, 119, 120, 121, 122, 123, 124, 125, 126, 127, 128, 129, 130, 131, 132, 133, 134, 150, 151, 152, 153, 154, 155, 156, 157, 158, 159, 160, 161, 162, 163, 164, 165, 166, 167, 135, 136, 137, 138, 139, 140, 141, 142, 143, 144, 145, 146, 147, 148, 149] (by decide +kernel) (by decide +kernel)
set_option maxRecDepth 20000 in
theorem gX2_carried_X2_planned : GoodIn wsX2_carried (wsV RX2 111 RX2 yX2_planned wsX2_planned) := goodIn_app (goodIn_of _ (by decide +kernel)) ggX2_carried_X2_planned
set_option maxRecDepth 20000 in
theorem ggX2_carried_X2_wayOf : GoodIn wsX2_carried wsX2_wayOf := goodIn_r _ [67] (by decide +kernel) (by decide +kernel)
set_option maxRecDepth 20000 in
theorem gX2_carried_X2_wayOf : GoodIn wsX2_carried (va_wsS RX2 100 yX2_wayOf wsX2_wayOf) := goodIn_app (goodIn_of _ (by decide +kernel)) ggX2_carried_X2_wayOf
theorem dX2_carried_0 : decode cX2_carried 0 = .ok (.aload_n 0, 1) := by decide +kernel
theorem dX2_carried_1 : decode cX2_carried 1 = .ok (.iload_n 1, 1) := by decide +kernel
theorem dX2_carried_2 : decode cX2_carried 2 = .ok (.iload_n 2, 1) := by decide +kernel
theorem dX2_carried_3 : decode cX2_carried 3 = .ok (.invokevirtual 97, 3) := by decide +kernel
theorem dX2_carried_6 : decode cX2_carried 6 = .ok (.aload_n 0, 1) := by decide +kernel
theorem dX2_carried_7 : decode cX2_carried 7 = .ok (.invokevirtual 111, 3) := by decide +kernel
theorem dX2_carried_10 : decode cX2_carried 10 = .ok (.getfield 141, 3) := by decide +kernel
theorem dX2_carried_13 : decode cX2_carried 13 = .ok (.iload_n 1, 1) := by decide +kernel
theorem dX2_carried_14 : decode cX2_carried 14 = .ok (.iload_n 2, 1) := by decide +kernel
theorem dX2_carried_15 : decode cX2_carried 15 = .ok (.invokestatic 100, 3) := by decide +kernel
theorem dX2_carried_18 : decode cX2_carried 18 = .ok (.iaload, 1) := by decide +kernel
theorem dX2_carried_19 : decode cX2_carried 19 = .ok (.ireturn, 1) := by decide +kernel
set_option maxRecDepth 20000 in
theorem ggX2_left_X2_checkNumber : GoodIn wsX2_left wsX2_checkNumber := goodIn_ca (goodIn_r _ [7, 8, 9, 10, 11, 12, 6, 13, 14, 15, 16, 17, 18, 19, 20, 21, 147, 148, 149, 150, 151, 152, 153, 154, 155, 156, 157, 158, 159, 160, 161, 162, 163, 164] (by decide +kernel) (by decide +kernel)) (goodIn_sub (fun _ h => List.mem_cons_of_mem _ (List.mem_append_right _ h)) (by decide +kernel))
set_option maxRecDepth 20000 in
theorem gX2_left_X2_checkNumber : GoodIn wsX2_left (wsV RX2 75 RX2 yX2_checkNumber wsX2_checkNumber) := goodIn_app (goodIn_of _ (by decide +kernel)) ggX2_left_X2_checkNumber
set_option maxRecDepth 20000 in
theorem ggX2_left_X2_planned : GoodIn wsX2_left wsX2_planned := goodIn_r _ [25, 26, 27, 28, 29, 30, 6, 31, 32, 33, 15, 34, 35, 14, 36, 37, 38, 39, 40, 41, 42, 43, 44, 45, 46, 47, 48, 49, 50, 51, 52, 53, 54, 55, 56, 57, 58, 59, 60, 61, 62, 63, 64, 65, 66, 67, 68, 69, 70, 71, 72, 73, 74, 75, 76, 77, 78, 79, 80, 81, 82, 83, 84, 85, 86, 87, 88, 89, 90, 91, 92, 93, 94, 95, 96, 97, 98, 99, 100, 101, 102, 103, 104, 105, 106, 107, 108, 109, 110, 111, 112, 113, 114, 115, 116, 117, 118, 119, 120, 121, 122, 123, 124, 125, 126, 127, 128, 129, 130, 131, 147, 148, 149, 150, 151, 152, 153, 154, 155, 156, 157, 158, 159, 160, 161, 162, 163, 164, 132, 133, 134, 135, 136, 137, 138, 139, 140, 141, 142, 143, 144, 145, 146] (by decide +kernel) (by decide +kernel)
set_option maxRecDepth 20000 in
theorem gX2_left_X2_planned : GoodIn wsX2_left (wsV RX2 111 RX2 yX2_planned wsX2_planned) := goodIn_app (goodIn_of _ (by decide +kernel)) ggX2_left_X2_planned
theorem dX2_left_0 : decode cX2_left 0 = .ok (.aload_n 0, 1) := by decide +kernel
theorem dX2_left_1 : decode cX2_left 1 = .ok (.iload_n 1, 1) := by decide +kernel
theorem dX2_left_2 : decode cX2_left 2 = .ok (.iload_n 2, 1) := by decide +kernel
theorem dX2_left_3 : decode cX2_left 3 = .ok (.invokevirtual 75, 3) := by decide +kernel
theorem dX2_left_6 : decode cX2_left 6 = .ok (.iload_n 1, 1) := by decide +kernel
theorem dX2_left_7 : decode cX2_left 7 = .ok (.ifCond .eq 15, 3) := by decide +kernel
theorem dX2_left_10 : decode cX2_left 10 = .ok (.aload_n 0, 1) := by decide +kernel
theorem dX2_left_11 : decode cX2_left 11 = .ok (.invokevirtual 111, 3) := by decide +kernel
theorem dX2_left_14 : decode cX2_left 14 = .ok (.getfield 144, 3) := by decide +kernel
theorem dX2_left_17 : decode cX2_left 17 = .ok (.iload_n 2, 1) := by decide +kernel
theorem dX2_left_18 : decode cX2_left 18 = .ok (.iaload, 1) := by decide +kernel
theorem dX2_left_19 : decode cX2_left 19 = .ok (.goto 12, 3) := by decide +kernel
theorem dX2_left_22 : decode cX2_left 22 = .ok (.aload_n 0, 1) := by decide +kernel
theorem dX2_left_23 : decode cX2_left 23 = .ok (.invokevirtual 111, 3) := by decide +kernel
theorem dX2_left_26 : decode cX2_left 26 = .ok (.getfield 147, 3) := by decide +kernel
theorem dX2_left_29 : decode cX2_left 29 = .ok (.iload_n 2, 1) := by decide +kernel
theorem dX2_left_30 : decode cX2_left 30 = .ok (.iaload, 1) := by decide +kernel
theorem dX2_left_31 : decode cX2_left 31 = .ok (.ireturn, 1) := by decide +kernel
set_option maxRecDepth 20000 in
theorem ggX2_without_X2_checkWay : GoodIn wsX2_without wsX2_checkWay := goodIn_ca (goodIn_r _ [8, 9, 10, 11, 7, 12, 13, 14, 15, 16, 17, 18, 19, 20, 21, 22, 23, 24, 25, 26, 137, 138, 139, 140, 141, 142, 143, 144, 145, 146, 147, 148, 149, 150, 151, 167, 168, 169] (by decide +kernel) (by decide +kernel)) (goodIn_sub (fun _ h => List.mem_cons_of_mem _ (List.mem_append_right _ h)) (by decide +kernel))
set_option maxRecDepth 20000 in
theorem gX2_without_X2_checkWay : GoodIn wsX2_without (wsV RX2 97 RX2 yX2_checkWay wsX2_checkWay) := goodIn_app (goodIn_of _ (by decide +kernel)) ggX2_without_X2_checkWay
set_option maxRecDepth 20000 in
theorem ggX2_without_X2_layOut : GoodIn wsX2_without wsX2_layOut := goodIn_r _ [30, 31, 32, 20, 33, 34, 19, 35, 36, 37, 38, 39, 40, 41, 42, 43, 44, 45, 46, 47, 48, 49, 50, 51, 52, 53, 54, 55, 56, 57, 58, 59, 60, 61, 62, 7, 63, 64, 65, 66, 67, 68, 69, 70, 71, 72, 73, 74, 75, 76, 77, 78, 79, 80, 81, 82, 83, 84, 85, 86, 87, 88, 89, 137, 138, 139, 140, 141, 142, 143, 144, 145, 146, 147, 148, 149, 150, 151, 167, 168, 169, 152, 153, 154, 155, 156, 157, 158, 159, 160, 161, 162, 163, 164, 165, 166] (by decide +kernel) (by decide +kernel)
set_option maxRecDepth 20000 in
theorem gX2_without_X2_layOut : GoodIn wsX2_without (wsV RX2 129 RX2 yX2_layOut wsX2_layOut) := goodIn_app (goodIn_of _ (by decide +kernel)) ggX2_without_X2_layOut
set_option maxRecDepth 20000 in
theorem ggX2_without_X2_wayOf : GoodIn wsX2_without wsX2_wayOf := goodIn_r _ [63] (by decide +kernel) (by decide +kernel)
set_option maxRecDepth 20000 in
theorem gX2_without_X2_wayOf : GoodIn wsX2_without (va_wsS RX2 100 yX2_wayOf wsX2_wayOf) := goodIn_app (goodIn_of _ (by decide +kernel)) ggX2_without_X2_wayOf
set_option maxRecDepth 20000 in
theorem ggX2_without_X0_improve : GoodIn wsX2_without wsX0_improve := goodIn_r _ [93, 94, 95, 96, 39, 97, 98, 41, 99, 100, 101, 102, 103, 104, 51, 105, 49, 50, 52, 106, 107, 108, 109, 46, 87, 44, 89, 110, 111, 112, 113, 43, 114, 115, 116, 117, 47, 48, 42, 118, 119, 120, 121, 122, 81, 76, 82, 62, 7, 63, 123, 124, 125, 126, 127, 128, 129, 130, 45, 88, 152, 153, 154, 155, 156, 157, 158, 159, 160, 161, 162, 163, 164, 165, 166] (by decide +kernel) (by decide +kernel)
set_option maxRecDepth 20000 in
theorem gX2_without_X0_improve : GoodIn wsX2_without (wsV RX2 153 RX0 yX0_improve wsX0_improve) := goodIn_app (goodIn_of _ (by decide +kernel)) ggX2_without_X0_improve
set_option maxRecDepth 20000 in
theorem ggX2_without_X2_planned : GoodIn wsX2_without wsX2_planned := goodIn_r _ [134, 135, 136, 27, 28, 29, 7, 30, 31, 32, 20, 33, 34, 19, 35, 36, 37, 38, 39, 40, 41, 42, 43, 44, 45, 46, 47, 48, 49, 50, 51, 52, 53, 54, 55, 56, 57, 58, 59, 60, 61, 62, 63, 64, 65, 66, 67, 68, 69, 70, 71, 72, 73, 74, 75, 76, 77, 78, 79, 80, 81, 82, 83, 84, 85, 86, 87, 88, 89, 90, 91, 92, 93, 94, 95, 96, 97, 98, 99, 100, 101, 102, 103, 104, 105, 106, 107, 108, 109, 110, 111, 112, 113, 114, 115, 116, 117, 118, 119, 120, 121, 122, 123, 124, 125, 126, 127, 128, 129, 130, 137, 138, 139, 140, 141, 142, 143, 144, 145, 146, 147, 148, 149, 150, 151, 167, 168, 169, 152, 153, 154, 155, 156, 157, 158, 159, 160, 161, 162, 163, 164, 165, 166] (by decide +kernel) (by decide +kernel)
set_option maxRecDepth 20000 in
theorem gX2_without_X2_planned : GoodIn wsX2_without (wsV RX2 111 RX2 yX2_planned wsX2_planned) := goodIn_app (goodIn_of _ (by decide +kernel)) ggX2_without_X2_planned
theorem dX2_without_0 : decode cX2_without 0 = .ok (.aload_n 0, 1) := by decide +kernel
theorem dX2_without_1 : decode cX2_without 1 = .ok (.iload_n 1, 1) := by decide +kernel
theorem dX2_without_2 : decode cX2_without 2 = .ok (.iload_n 2, 1) := by decide +kernel
theorem dX2_without_3 : decode cX2_without 3 = .ok (.invokevirtual 97, 3) := by decide +kernel
theorem dX2_without_6 : decode cX2_without 6 = .ok (.aload_n 0, 1) := by decide +kernel
theorem dX2_without_7 : decode cX2_without 7 = .ok (.aload_n 0, 1) := by decide +kernel
theorem dX2_without_8 : decode cX2_without 8 = .ok (.getfield 45, 3) := by decide +kernel
theorem dX2_without_11 : decode cX2_without 11 = .ok (.invokevirtual 129, 3) := by decide +kernel
theorem dX2_without_14 : decode cX2_without 14 = .ok (.aload_n 0, 1) := by decide +kernel
theorem dX2_without_15 : decode cX2_without 15 = .ok (.getfield 45, 3) := by decide +kernel
theorem dX2_without_18 : decode cX2_without 18 = .ok (.getfield 150, 3) := by decide +kernel
theorem dX2_without_21 : decode cX2_without 21 = .ok (.iload_n 1, 1) := by decide +kernel
theorem dX2_without_22 : decode cX2_without 22 = .ok (.iload_n 2, 1) := by decide +kernel
theorem dX2_without_23 : decode cX2_without 23 = .ok (.invokestatic 100, 3) := by decide +kernel
theorem dX2_without_26 : decode cX2_without 26 = .ok (.iconst 0, 1) := by decide +kernel
theorem dX2_without_27 : decode cX2_without 27 = .ok (.iastore, 1) := by decide +kernel
theorem dX2_without_28 : decode cX2_without 28 = .ok (.aload_n 0, 1) := by decide +kernel
theorem dX2_without_29 : decode cX2_without 29 = .ok (.getfield 45, 3) := by decide +kernel
theorem dX2_without_32 : decode cX2_without 32 = .ok (.invokevirtual 153, 3) := by decide +kernel
theorem dX2_without_35 : decode cX2_without 35 = .ok (.aload_n 0, 1) := by decide +kernel
theorem dX2_without_36 : decode cX2_without 36 = .ok (.getfield 45, 3) := by decide +kernel
theorem dX2_without_39 : decode cX2_without 39 = .ok (.getfield 115, 3) := by decide +kernel
theorem dX2_without_42 : decode cX2_without 42 = .ok (.aload_n 0, 1) := by decide +kernel
theorem dX2_without_43 : decode cX2_without 43 = .ok (.invokevirtual 111, 3) := by decide +kernel
theorem dX2_without_46 : decode cX2_without 46 = .ok (.getfield 115, 3) := by decide +kernel
theorem dX2_without_49 : decode cX2_without 49 = .ok (.isub, 1) := by decide +kernel
theorem dX2_without_50 : decode cX2_without 50 = .ok (.ireturn, 1) := by decide +kernel
set_option maxRecDepth 20000 in
theorem ggX2_price_X2_checkNumber : GoodIn wsX2_price wsX2_checkNumber := goodIn_ca (goodIn_r _ [5, 6, 7, 8, 9, 10, 4, 11, 12, 13, 14, 15, 16, 17, 18, 19, 140, 141, 142, 143, 144, 145, 146, 147, 148, 149, 150, 151, 152, 153, 154, 155, 156, 157] (by decide +kernel) (by decide +kernel)) (goodIn_sub (fun _ h => List.mem_cons_of_mem _ (List.mem_append_right _ h)) (by decide +kernel))
set_option maxRecDepth 20000 in
theorem gX2_price_X2_checkNumber : GoodIn wsX2_price (wsV RX2 75 RX2 yX2_checkNumber wsX2_checkNumber) := goodIn_app (goodIn_of _ (by decide +kernel)) ggX2_price_X2_checkNumber
set_option maxRecDepth 20000 in
theorem ggX2_price_X2_holePrice : GoodIn wsX2_price wsX2_holePrice := goodIn_r _ [23, 24, 25, 26, 27, 28, 4, 29, 30, 31, 13, 32, 33, 12, 34, 35, 36, 37, 38, 39, 40, 41, 42, 43, 44, 45, 46, 47, 48, 49, 50, 51, 52, 53, 54, 55, 56, 57, 58, 59, 60, 61, 62, 63, 64, 65, 66, 67, 68, 69, 70, 71, 72, 73, 74, 75, 76, 77, 78, 79, 80, 81, 82, 83, 84, 85, 86, 87, 88, 89, 90, 91, 92, 93, 94, 95, 96, 97, 98, 99, 100, 101, 102, 103, 104, 105, 106, 107, 108, 109, 110, 111, 112, 113, 114, 115, 116, 117, 118, 119, 120, 121, 122, 123, 124, 125, 126, 127, 128, 129, 130, 131, 132, 133, 134, 135, 140, 141, 142, 143, 144, 145, 146, 147, 148, 149, 150, 151, 152, 153, 154, 158, 159, 160, 161, 162, 163, 164, 165, 166, 167, 168, 169, 170, 171, 172, 155, 156, 157] (by decide +kernel) (by decide +kernel)
set_option maxRecDepth 20000 in
theorem gX2_price_X2_holePrice : GoodIn wsX2_price (wsV RX2 156 RX2 yX2_holePrice wsX2_holePrice) := goodIn_app (goodIn_of _ (by decide +kernel)) ggX2_price_X2_holePrice
set_option maxRecDepth 20000 in
theorem ggX2_price_X2_heapPrice : GoodIn wsX2_price wsX2_heapPrice := goodIn_r _ [139, 24, 25, 26, 27, 28, 4, 29, 30, 31, 13, 32, 33, 12, 34, 35, 36, 37, 38, 39, 40, 41, 42, 43, 44, 45, 46, 47, 48, 49, 50, 51, 52, 53, 54, 55, 56, 57, 58, 59, 60, 61, 62, 63, 64, 65, 66, 67, 68, 69, 70, 71, 72, 73, 74, 75, 76, 77, 78, 79, 80, 81, 82, 83, 84, 85, 86, 87, 88, 89, 90, 91, 92, 93, 94, 95, 96, 97, 98, 99, 100, 101, 102, 103, 104, 105, 106, 107, 108, 109, 110, 111, 112, 113, 114, 115, 116, 117, 118, 119, 120, 121, 122, 123, 124, 125, 126, 127, 128, 129, 130, 131, 132, 133, 134, 135, 140, 141, 142, 143, 144, 145, 146, 147, 148, 149, 150, 151, 152, 153, 154, 158, 159, 160, 161, 162, 163, 164, 165, 166, 167, 168, 169, 170, 171, 172, 155, 156, 157] (by decide +kernel) (by decide +kernel)
set_option maxRecDepth 20000 in
theorem gX2_price_X2_heapPrice : GoodIn wsX2_price (wsV RX2 160 RX2 yX2_heapPrice wsX2_heapPrice) := goodIn_app (goodIn_of _ (by decide +kernel)) ggX2_price_X2_heapPrice
theorem dX2_price_0 : decode cX2_price 0 = .ok (.aload_n 0, 1) := by decide +kernel
theorem dX2_price_1 : decode cX2_price 1 = .ok (.iload_n 1, 1) := by decide +kernel
theorem dX2_price_2 : decode cX2_price 2 = .ok (.iload_n 2, 1) := by decide +kernel
theorem dX2_price_3 : decode cX2_price 3 = .ok (.invokevirtual 75, 3) := by decide +kernel
theorem dX2_price_6 : decode cX2_price 6 = .ok (.iload_n 1, 1) := by decide +kernel
theorem dX2_price_7 : decode cX2_price 7 = .ok (.ifCond .eq 11, 3) := by decide +kernel
theorem dX2_price_10 : decode cX2_price 10 = .ok (.aload_n 0, 1) := by decide +kernel
theorem dX2_price_11 : decode cX2_price 11 = .ok (.iload_n 2, 1) := by decide +kernel
theorem dX2_price_12 : decode cX2_price 12 = .ok (.invokevirtual 156, 3) := by decide +kernel
theorem dX2_price_15 : decode cX2_price 15 = .ok (.goto 8, 3) := by decide +kernel
theorem dX2_price_18 : decode cX2_price 18 = .ok (.aload_n 0, 1) := by decide +kernel
theorem dX2_price_19 : decode cX2_price 19 = .ok (.iload_n 2, 1) := by decide +kernel
theorem dX2_price_20 : decode cX2_price 20 = .ok (.invokevirtual 160, 3) := by decide +kernel
theorem dX2_price_23 : decode cX2_price 23 = .ok (.ireturn, 1) := by decide +kernel
set_option maxRecDepth 20000 in
theorem ggX2_toll_X2_checkWay : GoodIn wsX2_toll wsX2_checkWay := goodIn_ca (goodIn_r _ [5, 6, 7, 8, 4, 9, 10, 11, 12, 13, 14, 15, 16, 17, 18, 19, 20, 21, 22, 23, 151, 152, 153, 154, 155, 156, 157, 158, 159, 160, 161, 162, 163, 164, 165, 166, 167, 168] (by decide +kernel) (by decide +kernel)) (goodIn_sub (fun _ h => List.mem_cons_of_mem _ (List.mem_append_right _ h)) (by decide +kernel))
set_option maxRecDepth 20000 in
theorem gX2_toll_X2_checkWay : GoodIn wsX2_toll (wsV RX2 97 RX2 yX2_checkWay wsX2_checkWay) := goodIn_app (goodIn_of _ (by decide +kernel)) ggX2_toll_X2_checkWay
set_option maxRecDepth 20000 in
theorem ggX2_toll_X2_heapPrice : GoodIn wsX2_toll wsX2_heapPrice := goodIn_r _ [27, 28, 29, 30, 31, 32, 4, 33, 34, 35, 17, 36, 37, 16, 38, 39, 40, 41, 42, 43, 44, 45, 46, 47, 48, 49, 50, 51, 52, 53, 54, 55, 56, 57, 58, 59, 60, 61, 62, 63, 64, 65, 66, 67, 68, 69, 70, 71, 72, 73, 74, 75, 76, 77, 78, 79, 80, 81, 82, 83, 84, 85, 86, 87, 88, 89, 90, 91, 92, 93, 94, 95, 96, 97, 98, 99, 100, 101, 102, 103, 104, 105, 106, 107, 108, 109, 110, 111, 112, 113, 114, 115, 116, 117, 118, 119, 120, 121, 122, 123, 124, 125, 126, 127, 128, 129, 130, 131, 132, 133, 134, 135, 136, 137, 138, 139, 151, 152, 153, 154, 155, 156, 157, 158, 159, 160, 161, 162, 163, 164, 165, 169, 170, 171, 172, 173, 174, 175, 176, 177, 178, 179, 180, 181, 182, 183, 166, 167, 168] (by decide +kernel) (by decide +kernel)
set_option maxRecDepth 20000 in
theorem gX2_toll_X2_heapPrice : GoodIn wsX2_toll (wsV RX2 160 RX2 yX2_heapPrice wsX2_heapPrice) := goodIn_app (goodIn_of _ (by decide +kernel)) ggX2_toll_X2_heapPrice
set_option maxRecDepth 20000 in
theorem ggX2_toll_X2_holePrice : GoodIn wsX2_toll wsX2_holePrice := goodIn_r _ [143, 28, 29, 30, 31, 32, 4, 33, 34, 35, 17, 36, 37, 16, 38, 39, 40, 41, 42, 43, 44, 45, 46, 47, 48, 49, 50, 51, 52, 53, 54, 55, 56, 57, 58, 59, 60, 61, 62, 63, 64, 65, 66, 67, 68, 69, 70, 71, 72, 73, 74, 75, 76, 77, 78, 79, 80, 81, 82, 83, 84, 85, 86, 87, 88, 89, 90, 91, 92, 93, 94, 95, 96, 97, 98, 99, 100, 101, 102, 103, 104, 105, 106, 107, 108, 109, 110, 111, 112, 113, 114, 115, 116, 117, 118, 119, 120, 121, 122, 123, 124, 125, 126, 127, 128, 129, 130, 131, 132, 133, 134, 135, 136, 137, 138, 139, 151, 152, 153, 154, 155, 156, 157, 158, 159, 160, 161, 162, 163, 164, 165, 169, 170, 171, 172, 173, 174, 175, 176, 177, 178, 179, 180, 181, 182, 183, 166, 167, 168] (by decide +kernel) (by decide +kernel)
set_option maxRecDepth 20000 in
theorem gX2_toll_X2_holePrice : GoodIn wsX2_toll (wsV RX2 156 RX2 yX2_holePrice wsX2_holePrice) := goodIn_app (goodIn_of _ (by decide +kernel)) ggX2_toll_X2_holePrice
set_option maxRecDepth 20000 in
theorem ggX2_toll_X2_tollOf : GoodIn wsX2_toll wsX2_tollOf := goodIn_r _ [147, 38, 148, 149, 79, 150, 64, 65, 4, 66, 67, 68, 69, 70, 71, 17, 72, 16, 73, 74, 75, 76, 77, 78, 80, 81, 82, 83, 84, 85, 151, 152, 153, 154, 155, 156, 157, 158, 159, 160, 161, 162, 163, 164, 165, 166, 167, 168] (by decide +kernel) (by decide +kernel)
set_option maxRecDepth 20000 in
theorem gX2_toll_X2_tollOf : GoodIn wsX2_toll (wsV RX2 163 RX2 yX2_tollOf wsX2_tollOf) := goodIn_app (goodIn_of _ (by decide +kernel)) ggX2_toll_X2_tollOf
theorem dX2_toll_0 : decode cX2_toll 0 = .ok (.aload_n 0, 1) := by decide +kernel
theorem dX2_toll_1 : decode cX2_toll 1 = .ok (.iload_n 1, 1) := by decide +kernel
theorem dX2_toll_2 : decode cX2_toll 2 = .ok (.iload_n 2, 1) := by decide +kernel
theorem dX2_toll_3 : decode cX2_toll 3 = .ok (.invokevirtual 97, 3) := by decide +kernel
theorem dX2_toll_6 : decode cX2_toll 6 = .ok (.aload_n 0, 1) := by decide +kernel
theorem dX2_toll_7 : decode cX2_toll 7 = .ok (.iload_n 1, 1) := by decide +kernel
theorem dX2_toll_8 : decode cX2_toll 8 = .ok (.iload_n 2, 1) := by decide +kernel
theorem dX2_toll_9 : decode cX2_toll 9 = .ok (.aload_n 0, 1) := by decide +kernel
theorem dX2_toll_10 : decode cX2_toll 10 = .ok (.iload_n 1, 1) := by decide +kernel
theorem dX2_toll_11 : decode cX2_toll 11 = .ok (.invokevirtual 160, 3) := by decide +kernel
theorem dX2_toll_14 : decode cX2_toll 14 = .ok (.aload_n 0, 1) := by decide +kernel
theorem dX2_toll_15 : decode cX2_toll 15 = .ok (.iload_n 2, 1) := by decide +kernel
theorem dX2_toll_16 : decode cX2_toll 16 = .ok (.invokevirtual 156, 3) := by decide +kernel
theorem dX2_toll_19 : decode cX2_toll 19 = .ok (.invokevirtual 163, 3) := by decide +kernel
theorem dX2_toll_22 : decode cX2_toll 22 = .ok (.ireturn, 1) := by decide +kernel
set_option maxRecDepth 20000 in
theorem ggX2_proof_X2_heapPrice : GoodIn wsX2_proof wsX2_heapPrice := goodIn_r _ [16, 17, 18, 19, 20, 21, 15, 22, 23, 24, 1, 2, 4, 5, 7, 25, 26, 27, 28, 29, 30, 31, 32, 33, 34, 35, 36, 37, 38, 39, 40, 41, 42, 43, 44, 45, 46, 47, 48, 49, 50, 51, 52, 53, 54, 55, 56, 57, 58, 59, 60, 61, 62, 63, 64, 10, 65, 66, 67, 68, 69, 70, 71, 72, 73, 74, 75, 76, 77, 78, 79, 80, 81, 82, 83, 84, 85, 86, 87, 88, 89, 90, 91, 92, 93, 94, 95, 96, 97, 98, 99, 100, 101, 102, 103, 104, 105, 106, 107, 108, 109, 110, 111, 112, 113, 114, 115, 116, 117, 118, 119, 120, 121, 122, 123, 124, 133, 134, 135, 136, 137, 138, 139, 140, 141, 142, 143, 144, 145, 146, 147, 151, 152, 153, 154, 155, 156, 157, 158, 159, 160, 161, 162, 163, 164, 165, 148, 149, 150] (by decide +kernel) (by decide +kernel)
set_option maxRecDepth 20000 in
theorem gX2_proof_X2_heapPrice : GoodIn wsX2_proof (wsV RX2 160 RX2 yX2_heapPrice wsX2_heapPrice) := goodIn_app (goodIn_of _ (by decide +kernel)) ggX2_proof_X2_heapPrice
set_option maxRecDepth 20000 in
theorem ggX2_proof_X2_holePrice : GoodIn wsX2_proof wsX2_holePrice := goodIn_r _ [128, 17, 18, 19, 20, 21, 15, 22, 23, 24, 1, 2, 4, 5, 7, 25, 26, 27, 28, 29, 30, 31, 32, 33, 34, 35, 36, 37, 38, 39, 40, 41, 42, 43, 44, 45, 46, 47, 48, 49, 50, 51, 52, 53, 54, 55, 56, 57, 58, 59, 60, 61, 62, 63, 64, 10, 65, 66, 67, 68, 69, 70, 71, 72, 73, 74, 75, 76, 77, 78, 79, 80, 81, 82, 83, 84, 85, 86, 87, 88, 89, 90, 91, 92, 93, 94, 95, 96, 97, 98, 99, 100, 101, 102, 103, 104, 105, 106, 107, 108, 109, 110, 111, 112, 113, 114, 115, 116, 117, 118, 119, 120, 121, 122, 123, 124, 133, 134, 135, 136, 137, 138, 139, 140, 141, 142, 143, 144, 145, 146, 147, 151, 152, 153, 154, 155, 156, 157, 158, 159, 160, 161, 162, 163, 164, 165, 148, 149, 150] (by decide +kernel) (by decide +kernel)
set_option maxRecDepth 20000 in
theorem gX2_proof_X2_holePrice : GoodIn wsX2_proof (wsV RX2 156 RX2 yX2_holePrice wsX2_holePrice) := goodIn_app (goodIn_of _ (by decide +kernel)) ggX2_proof_X2_holePrice
set_option maxRecDepth 20000 in
theorem ggX2_proof_X2_tollOf : GoodIn wsX2_proof wsX2_tollOf := goodIn_r _ [132, 7, 8, 9, 10, 11, 50, 51, 15, 52, 53, 54, 55, 56, 57, 1, 58, 5, 59, 60, 61, 62, 63, 64, 65, 66, 67, 68, 69, 70, 133, 134, 135, 136, 137, 138, 139, 140, 141, 142, 143, 144, 145, 146, 147, 148, 149, 150] (by decide +kernel) (by decide +kernel)
set_option maxRecDepth 20000 in
theorem gX2_proof_X2_tollOf : GoodIn wsX2_proof (wsV RX2 163 RX2 yX2_tollOf wsX2_tollOf) := goodIn_app (goodIn_of _ (by decide +kernel)) ggX2_proof_X2_tollOf
set_option maxRecDepth 20000 in
theorem ggX2_proof_X2_wayOf : GoodIn wsX2_proof wsX2_wayOf := goodIn_r _ [52] (by decide +kernel) (by decide +kernel)
set_option maxRecDepth 20000 in
theorem gX2_proof_X2_wayOf : GoodIn wsX2_proof (va_wsS RX2 100 yX2_wayOf wsX2_wayOf) := goodIn_app (goodIn_of _ (by decide +kernel)) ggX2_proof_X2_wayOf
theorem dX2_proof_0 : decode cX2_proof 0 = .ok (.iconst 0, 1) := by decide +kernel
theorem dX2_proof_1 : decode cX2_proof 1 = .ok (.istore_n 1, 1) := by decide +kernel
theorem dX2_proof_2 : decode cX2_proof 2 = .ok (.iconst 0, 1) := by decide +kernel
theorem dX2_proof_3 : decode cX2_proof 3 = .ok (.istore_n 2, 1) := by decide +kernel
theorem dX2_proof_4 : decode cX2_proof 4 = .ok (.iload_n 2, 1) := by decide +kernel
theorem dX2_proof_5 : decode cX2_proof 5 = .ok (.aload_n 0, 1) := by decide +kernel
theorem dX2_proof_6 : decode cX2_proof 6 = .ok (.getfield 12, 3) := by decide +kernel
theorem dX2_proof_9 : decode cX2_proof 9 = .ok (.getfield 167, 3) := by decide +kernel
theorem dX2_proof_12 : decode cX2_proof 12 = .ok (.if_icmp .ge 39, 3) := by decide +kernel
theorem dX2_proof_15 : decode cX2_proof 15 = .ok (.aload_n 0, 1) := by decide +kernel
theorem dX2_proof_16 : decode cX2_proof 16 = .ok (.getfield 32, 3) := by decide +kernel
theorem dX2_proof_19 : decode cX2_proof 19 = .ok (.iload_n 2, 1) := by decide +kernel
theorem dX2_proof_20 : decode cX2_proof 20 = .ok (.aload_n 0, 1) := by decide +kernel
theorem dX2_proof_21 : decode cX2_proof 21 = .ok (.iload_n 2, 1) := by decide +kernel
theorem dX2_proof_22 : decode cX2_proof 22 = .ok (.invokevirtual 160, 3) := by decide +kernel
theorem dX2_proof_25 : decode cX2_proof 25 = .ok (.iastore, 1) := by decide +kernel
theorem dX2_proof_26 : decode cX2_proof 26 = .ok (.iload_n 1, 1) := by decide +kernel
theorem dX2_proof_27 : decode cX2_proof 27 = .ok (.aload_n 0, 1) := by decide +kernel
theorem dX2_proof_28 : decode cX2_proof 28 = .ok (.getfield 32, 3) := by decide +kernel
theorem dX2_proof_31 : decode cX2_proof 31 = .ok (.iload_n 2, 1) := by decide +kernel
theorem dX2_proof_32 : decode cX2_proof 32 = .ok (.iaload, 1) := by decide +kernel
theorem dX2_proof_33 : decode cX2_proof 33 = .ok (.aload_n 0, 1) := by decide +kernel
theorem dX2_proof_34 : decode cX2_proof 34 = .ok (.getfield 12, 3) := by decide +kernel
theorem dX2_proof_37 : decode cX2_proof 37 = .ok (.getfield 87, 3) := by decide +kernel
theorem dX2_proof_40 : decode cX2_proof 40 = .ok (.iload_n 2, 1) := by decide +kernel
theorem dX2_proof_41 : decode cX2_proof 41 = .ok (.iaload, 1) := by decide +kernel
theorem dX2_proof_42 : decode cX2_proof 42 = .ok (.imul, 1) := by decide +kernel
theorem dX2_proof_43 : decode cX2_proof 43 = .ok (.iadd, 1) := by decide +kernel
theorem dX2_proof_44 : decode cX2_proof 44 = .ok (.istore_n 1, 1) := by decide +kernel
theorem dX2_proof_45 : decode cX2_proof 45 = .ok (.iinc 2 1, 3) := by decide +kernel
theorem dX2_proof_48 : decode cX2_proof 48 = .ok (.goto (-44), 3) := by decide +kernel
theorem dX2_proof_51 : decode cX2_proof 51 = .ok (.iconst 0, 1) := by decide +kernel
theorem dX2_proof_52 : decode cX2_proof 52 = .ok (.istore_n 2, 1) := by decide +kernel
theorem dX2_proof_53 : decode cX2_proof 53 = .ok (.iload_n 2, 1) := by decide +kernel
theorem dX2_proof_54 : decode cX2_proof 54 = .ok (.aload_n 0, 1) := by decide +kernel
theorem dX2_proof_55 : decode cX2_proof 55 = .ok (.getfield 16, 3) := by decide +kernel
theorem dX2_proof_58 : decode cX2_proof 58 = .ok (.getfield 167, 3) := by decide +kernel
theorem dX2_proof_61 : decode cX2_proof 61 = .ok (.if_icmp .ge 39, 3) := by decide +kernel
theorem dX2_proof_64 : decode cX2_proof 64 = .ok (.aload_n 0, 1) := by decide +kernel
theorem dX2_proof_65 : decode cX2_proof 65 = .ok (.getfield 35, 3) := by decide +kernel
theorem dX2_proof_68 : decode cX2_proof 68 = .ok (.iload_n 2, 1) := by decide +kernel
theorem dX2_proof_69 : decode cX2_proof 69 = .ok (.aload_n 0, 1) := by decide +kernel
theorem dX2_proof_70 : decode cX2_proof 70 = .ok (.iload_n 2, 1) := by decide +kernel
theorem dX2_proof_71 : decode cX2_proof 71 = .ok (.invokevirtual 156, 3) := by decide +kernel
theorem dX2_proof_74 : decode cX2_proof 74 = .ok (.iastore, 1) := by decide +kernel
theorem dX2_proof_75 : decode cX2_proof 75 = .ok (.iload_n 1, 1) := by decide +kernel
theorem dX2_proof_76 : decode cX2_proof 76 = .ok (.aload_n 0, 1) := by decide +kernel
theorem dX2_proof_77 : decode cX2_proof 77 = .ok (.getfield 35, 3) := by decide +kernel
theorem dX2_proof_80 : decode cX2_proof 80 = .ok (.iload_n 2, 1) := by decide +kernel
theorem dX2_proof_81 : decode cX2_proof 81 = .ok (.iaload, 1) := by decide +kernel
theorem dX2_proof_82 : decode cX2_proof 82 = .ok (.aload_n 0, 1) := by decide +kernel
theorem dX2_proof_83 : decode cX2_proof 83 = .ok (.getfield 16, 3) := by decide +kernel
theorem dX2_proof_86 : decode cX2_proof 86 = .ok (.getfield 87, 3) := by decide +kernel
theorem dX2_proof_89 : decode cX2_proof 89 = .ok (.iload_n 2, 1) := by decide +kernel
theorem dX2_proof_90 : decode cX2_proof 90 = .ok (.iaload, 1) := by decide +kernel
theorem dX2_proof_91 : decode cX2_proof 91 = .ok (.imul, 1) := by decide +kernel
theorem dX2_proof_92 : decode cX2_proof 92 = .ok (.iadd, 1) := by decide +kernel
theorem dX2_proof_93 : decode cX2_proof 93 = .ok (.istore_n 1, 1) := by decide +kernel
theorem dX2_proof_94 : decode cX2_proof 94 = .ok (.iinc 2 1, 3) := by decide +kernel
theorem dX2_proof_97 : decode cX2_proof 97 = .ok (.goto (-44), 3) := by decide +kernel
theorem dX2_proof_100 : decode cX2_proof 100 = .ok (.iconst 0, 1) := by decide +kernel
theorem dX2_proof_101 : decode cX2_proof 101 = .ok (.istore_n 2, 1) := by decide +kernel
theorem dX2_proof_102 : decode cX2_proof 102 = .ok (.iload_n 2, 1) := by decide +kernel
theorem dX2_proof_103 : decode cX2_proof 103 = .ok (.aload_n 0, 1) := by decide +kernel
theorem dX2_proof_104 : decode cX2_proof 104 = .ok (.getfield 12, 3) := by decide +kernel
theorem dX2_proof_107 : decode cX2_proof 107 = .ok (.getfield 167, 3) := by decide +kernel
theorem dX2_proof_110 : decode cX2_proof 110 = .ok (.if_icmp .ge 68, 3) := by decide +kernel
theorem dX2_proof_113 : decode cX2_proof 113 = .ok (.iconst 0, 1) := by decide +kernel
theorem dX2_proof_114 : decode cX2_proof 114 = .ok (.istore_n 3, 1) := by decide +kernel
theorem dX2_proof_115 : decode cX2_proof 115 = .ok (.iload_n 3, 1) := by decide +kernel
theorem dX2_proof_116 : decode cX2_proof 116 = .ok (.aload_n 0, 1) := by decide +kernel
theorem dX2_proof_117 : decode cX2_proof 117 = .ok (.getfield 16, 3) := by decide +kernel
theorem dX2_proof_120 : decode cX2_proof 120 = .ok (.getfield 167, 3) := by decide +kernel
theorem dX2_proof_123 : decode cX2_proof 123 = .ok (.if_icmp .ge 49, 3) := by decide +kernel
theorem dX2_proof_126 : decode cX2_proof 126 = .ok (.aload_n 0, 1) := by decide +kernel
theorem dX2_proof_127 : decode cX2_proof 127 = .ok (.iload_n 2, 1) := by decide +kernel
theorem dX2_proof_128 : decode cX2_proof 128 = .ok (.iload_n 3, 1) := by decide +kernel
theorem dX2_proof_129 : decode cX2_proof 129 = .ok (.aload_n 0, 1) := by decide +kernel
theorem dX2_proof_130 : decode cX2_proof 130 = .ok (.getfield 32, 3) := by decide +kernel
theorem dX2_proof_133 : decode cX2_proof 133 = .ok (.iload_n 2, 1) := by decide +kernel
theorem dX2_proof_134 : decode cX2_proof 134 = .ok (.iaload, 1) := by decide +kernel
theorem dX2_proof_135 : decode cX2_proof 135 = .ok (.aload_n 0, 1) := by decide +kernel
theorem dX2_proof_136 : decode cX2_proof 136 = .ok (.getfield 35, 3) := by decide +kernel
theorem dX2_proof_139 : decode cX2_proof 139 = .ok (.iload_n 3, 1) := by decide +kernel
theorem dX2_proof_140 : decode cX2_proof 140 = .ok (.iaload, 1) := by decide +kernel
theorem dX2_proof_141 : decode cX2_proof 141 = .ok (.invokevirtual 163, 3) := by decide +kernel
theorem dX2_proof_144 : decode cX2_proof 144 = .ok (.istore 4, 2) := by decide +kernel
theorem dX2_proof_146 : decode cX2_proof 146 = .ok (.iload_n 1, 1) := by decide +kernel
theorem dX2_proof_147 : decode cX2_proof 147 = .ok (.iload 4, 2) := by decide +kernel
theorem dX2_proof_149 : decode cX2_proof 149 = .ok (.aload_n 0, 1) := by decide +kernel
theorem dX2_proof_150 : decode cX2_proof 150 = .ok (.getfield 23, 3) := by decide +kernel
theorem dX2_proof_153 : decode cX2_proof 153 = .ok (.iload_n 2, 1) := by decide +kernel
theorem dX2_proof_154 : decode cX2_proof 154 = .ok (.iload_n 3, 1) := by decide +kernel
theorem dX2_proof_155 : decode cX2_proof 155 = .ok (.invokestatic 100, 3) := by decide +kernel
theorem dX2_proof_158 : decode cX2_proof 158 = .ok (.iaload, 1) := by decide +kernel
theorem dX2_proof_159 : decode cX2_proof 159 = .ok (.iconst 0, 1) := by decide +kernel
theorem dX2_proof_160 : decode cX2_proof 160 = .ok (.invokestatic 170, 3) := by decide +kernel
theorem dX2_proof_163 : decode cX2_proof 163 = .ok (.imul, 1) := by decide +kernel
theorem dX2_proof_164 : decode cX2_proof 164 = .ok (.isub, 1) := by decide +kernel
theorem dX2_proof_165 : decode cX2_proof 165 = .ok (.istore_n 1, 1) := by decide +kernel
theorem dX2_proof_166 : decode cX2_proof 166 = .ok (.iinc 3 1, 3) := by decide +kernel
theorem dX2_proof_169 : decode cX2_proof 169 = .ok (.goto (-54), 3) := by decide +kernel
theorem dX2_proof_172 : decode cX2_proof 172 = .ok (.iinc 2 1, 3) := by decide +kernel
theorem dX2_proof_175 : decode cX2_proof 175 = .ok (.goto (-73), 3) := by decide +kernel
theorem dX2_proof_178 : decode cX2_proof 178 = .ok (.iload_n 1, 1) := by decide +kernel
theorem dX2_proof_179 : decode cX2_proof 179 = .ok (.ireturn, 1) := by decide +kernel
set_option maxRecDepth 20000 in
theorem ggX2_order_X2_canGoByOrder : GoodIn wsX2_order wsX2_canGoByOrder := goodIn_r _ [13, 3, 14, 15, 16, 17, 18, 19, 20, 12, 21, 44, 45, 46, 47, 48, 49, 50, 51, 52, 53, 54, 55, 56, 57, 58, 59, 60, 61] (by decide +kernel) (by decide +kernel)
set_option maxRecDepth 20000 in
theorem gX2_order_X2_canGoByOrder : GoodIn wsX2_order (wsV RX2 173 RX2 yX2_canGoByOrder wsX2_canGoByOrder) := goodIn_app (goodIn_of _ (by decide +kernel)) ggX2_order_X2_canGoByOrder
set_option maxRecDepth 20000 in
theorem ggX2_order_X2_fillSurpluses : GoodIn wsX2_order wsX2_fillSurpluses := goodIn_r _ [25, 26, 14, 27, 28, 15, 16, 29, 30, 31, 32, 33, 34, 35, 12, 36, 3, 4, 44, 45, 46, 47, 48, 49, 50, 51, 52, 53, 54, 55, 56, 57, 58, 59, 60, 61] (by decide +kernel) (by decide +kernel)
set_option maxRecDepth 20000 in
theorem gX2_order_X2_fillSurpluses : GoodIn wsX2_order (wsV RX2 178 RX2 yX2_fillSurpluses wsX2_fillSurpluses) := goodIn_app (goodIn_of _ (by decide +kernel)) ggX2_order_X2_fillSurpluses
set_option maxRecDepth 20000 in
theorem ggX2_order_X2_sizesOff : GoodIn wsX2_order wsX2_sizesOff := goodIn_r _ [40, 26, 41, 42, 7, 43, 44, 45, 46, 47, 48, 49, 50, 51, 52, 53, 54, 55, 56, 57, 58] (by decide +kernel) (by decide +kernel)
set_option maxRecDepth 20000 in
theorem gX2_order_X2_sizesOff : GoodIn wsX2_order (wsV RX2 182 RX2 yX2_sizesOff wsX2_sizesOff) := goodIn_app (goodIn_of _ (by decide +kernel)) ggX2_order_X2_sizesOff
theorem dX2_order_0 : decode cX2_order 0 = .ok (.aload_n 0, 1) := by decide +kernel
theorem dX2_order_1 : decode cX2_order 1 = .ok (.invokevirtual 173, 3) := by decide +kernel
theorem dX2_order_4 : decode cX2_order 4 = .ok (.ifCond .ne 13, 3) := by decide +kernel
theorem dX2_order_7 : decode cX2_order 7 = .ok (.new 122, 3) := by decide +kernel
theorem dX2_order_10 : decode cX2_order 10 = .ok (.dup, 1) := by decide +kernel
theorem dX2_order_11 : decode cX2_order 11 = .ok (.ldc 176, 2) := by decide +kernel
theorem dX2_order_13 : decode cX2_order 13 = .ok (.invokespecial 126, 3) := by decide +kernel
theorem dX2_order_16 : decode cX2_order 16 = .ok (.athrow, 1) := by decide +kernel
theorem dX2_order_17 : decode cX2_order 17 = .ok (.aload_n 0, 1) := by decide +kernel
theorem dX2_order_18 : decode cX2_order 18 = .ok (.getfield 48, 3) := by decide +kernel
theorem dX2_order_21 : decode cX2_order 21 = .ok (.ifCond .ne 17, 3) := by decide +kernel
theorem dX2_order_24 : decode cX2_order 24 = .ok (.aload_n 0, 1) := by decide +kernel
theorem dX2_order_25 : decode cX2_order 25 = .ok (.bipush 100, 2) := by decide +kernel
theorem dX2_order_27 : decode cX2_order 27 = .ok (.invokevirtual 178, 3) := by decide +kernel
theorem dX2_order_30 : decode cX2_order 30 = .ok (.aload_n 0, 1) := by decide +kernel
theorem dX2_order_31 : decode cX2_order 31 = .ok (.iconst 0, 1) := by decide +kernel
theorem dX2_order_32 : decode cX2_order 32 = .ok (.bipush 100, 2) := by decide +kernel
theorem dX2_order_34 : decode cX2_order 34 = .ok (.invokevirtual 182, 3) := by decide +kernel
theorem dX2_order_37 : decode cX2_order 37 = .ok (.ireturn, 1) := by decide +kernel
theorem dX2_order_38 : decode cX2_order 38 = .ok (.aload_n 0, 1) := by decide +kernel
theorem dX2_order_39 : decode cX2_order 39 = .ok (.aload_n 0, 1) := by decide +kernel
theorem dX2_order_40 : decode cX2_order 40 = .ok (.getfield 52, 3) := by decide +kernel
theorem dX2_order_43 : decode cX2_order 43 = .ok (.invokevirtual 178, 3) := by decide +kernel
theorem dX2_order_46 : decode cX2_order 46 = .ok (.aload_n 0, 1) := by decide +kernel
theorem dX2_order_47 : decode cX2_order 47 = .ok (.iconst 0, 1) := by decide +kernel
theorem dX2_order_48 : decode cX2_order 48 = .ok (.aload_n 0, 1) := by decide +kernel
theorem dX2_order_49 : decode cX2_order 49 = .ok (.getfield 52, 3) := by decide +kernel
theorem dX2_order_52 : decode cX2_order 52 = .ok (.invokevirtual 182, 3) := by decide +kernel
theorem dX2_order_55 : decode cX2_order 55 = .ok (.istore_n 1, 1) := by decide +kernel
theorem dX2_order_56 : decode cX2_order 56 = .ok (.bipush (-100), 2) := by decide +kernel
theorem dX2_order_58 : decode cX2_order 58 = .ok (.istore_n 2, 1) := by decide +kernel
theorem dX2_order_59 : decode cX2_order 59 = .ok (.iload_n 2, 1) := by decide +kernel
theorem dX2_order_60 : decode cX2_order 60 = .ok (.bipush 100, 2) := by decide +kernel
theorem dX2_order_62 : decode cX2_order 62 = .ok (.if_icmp .gt 23, 3) := by decide +kernel
theorem dX2_order_65 : decode cX2_order 65 = .ok (.iload_n 1, 1) := by decide +kernel
theorem dX2_order_66 : decode cX2_order 66 = .ok (.aload_n 0, 1) := by decide +kernel
theorem dX2_order_67 : decode cX2_order 67 = .ok (.iload_n 2, 1) := by decide +kernel
theorem dX2_order_68 : decode cX2_order 68 = .ok (.aload_n 0, 1) := by decide +kernel
theorem dX2_order_69 : decode cX2_order 69 = .ok (.getfield 52, 3) := by decide +kernel
theorem dX2_order_72 : decode cX2_order 72 = .ok (.invokevirtual 182, 3) := by decide +kernel
theorem dX2_order_75 : decode cX2_order 75 = .ok (.invokestatic 136, 3) := by decide +kernel
theorem dX2_order_78 : decode cX2_order 78 = .ok (.istore_n 1, 1) := by decide +kernel
theorem dX2_order_79 : decode cX2_order 79 = .ok (.iinc 2 1, 3) := by decide +kernel
theorem dX2_order_82 : decode cX2_order 82 = .ok (.goto (-23), 3) := by decide +kernel
theorem dX2_order_85 : decode cX2_order 85 = .ok (.iload_n 1, 1) := by decide +kernel
theorem dX2_order_86 : decode cX2_order 86 = .ok (.ireturn, 1) := by decide +kernel
set_option maxRecDepth 20000 in
theorem ggX2_carry_X2_checkWay : GoodIn wsX2_carry wsX2_checkWay := goodIn_ca (goodIn_r _ [6, 7, 8, 9, 5, 10, 11, 12, 13, 14, 15, 16, 17, 18, 19, 20, 21, 22, 23, 24, 36, 37, 38, 39, 40, 41, 42, 43, 44, 45, 46, 47, 48, 49, 50, 51, 52, 53] (by decide +kernel) (by decide +kernel)) (goodIn_sub (fun _ h => List.mem_cons_of_mem _ (List.mem_append_left _ (List.mem_append_right _ h))) (by decide +kernel))
set_option maxRecDepth 20000 in
theorem gX2_carry_X2_checkWay : GoodIn wsX2_carry (wsV RX2 97 RX2 yX2_checkWay wsX2_checkWay) := goodIn_app (goodIn_of _ (by decide +kernel)) ggX2_carry_X2_checkWay
set_option maxRecDepth 20000 in
theorem ggX2_carry_X2_checkRange : GoodIn wsX2_carry wsX2_checkRange := goodIn_ca (goodIn_r _ [27, 28, 29] (by decide +kernel) (by decide +kernel)) (goodIn_sub (fun _ h => List.mem_cons_of_mem _ (List.mem_append_right _ h)) (by decide +kernel))
set_option maxRecDepth 20000 in
theorem gX2_carry_X2_checkRange : GoodIn wsX2_carry (va_wsS RX2 93 yX2_checkRange wsX2_checkRange) := goodIn_app (goodIn_of _ (by decide +kernel)) ggX2_carry_X2_checkRange
set_option maxRecDepth 20000 in
theorem ggX2_carry_X2_wayOf : GoodIn wsX2_carry wsX2_wayOf := goodIn_r _ [32] (by decide +kernel) (by decide +kernel)
set_option maxRecDepth 20000 in
theorem gX2_carry_X2_wayOf : GoodIn wsX2_carry (va_wsS RX2 100 yX2_wayOf wsX2_wayOf) := goodIn_app (goodIn_of _ (by decide +kernel)) ggX2_carry_X2_wayOf
set_option maxRecDepth 20000 in
theorem ggX2_carry_X2_tell : GoodIn wsX2_carry wsX2_tell := goodIn_r _ [35] (by decide +kernel) (by decide +kernel)
set_option maxRecDepth 20000 in
theorem gX2_carry_X2_tell : GoodIn wsX2_carry (va_wsS RX2 104 yX2_tell wsX2_tell) := goodIn_app (goodIn_of _ (by decide +kernel)) ggX2_carry_X2_tell
theorem dX2_carry_0 : decode cX2_carry 0 = .ok (.aload_n 0, 1) := by decide +kernel
theorem dX2_carry_1 : decode cX2_carry 1 = .ok (.iload_n 1, 1) := by decide +kernel
theorem dX2_carry_2 : decode cX2_carry 2 = .ok (.iload_n 2, 1) := by decide +kernel
theorem dX2_carry_3 : decode cX2_carry 3 = .ok (.invokevirtual 97, 3) := by decide +kernel
theorem dX2_carry_6 : decode cX2_carry 6 = .ok (.iload_n 3, 1) := by decide +kernel
theorem dX2_carry_7 : decode cX2_carry 7 = .ok (.iconst 0, 1) := by decide +kernel
theorem dX2_carry_8 : decode cX2_carry 8 = .ok (.bipush 20, 2) := by decide +kernel
theorem dX2_carry_10 : decode cX2_carry 10 = .ok (.invokestatic 93, 3) := by decide +kernel
theorem dX2_carry_13 : decode cX2_carry 13 = .ok (.aload_n 0, 1) := by decide +kernel
theorem dX2_carry_14 : decode cX2_carry 14 = .ok (.getfield 26, 3) := by decide +kernel
theorem dX2_carry_17 : decode cX2_carry 17 = .ok (.iload_n 1, 1) := by decide +kernel
theorem dX2_carry_18 : decode cX2_carry 18 = .ok (.iload_n 2, 1) := by decide +kernel
theorem dX2_carry_19 : decode cX2_carry 19 = .ok (.invokestatic 100, 3) := by decide +kernel
theorem dX2_carry_22 : decode cX2_carry 22 = .ok (.iload_n 3, 1) := by decide +kernel
theorem dX2_carry_23 : decode cX2_carry 23 = .ok (.invokestatic 104, 3) := by decide +kernel
theorem dX2_carry_26 : decode cX2_carry 26 = .ok (.ireturn, 1) := by decide +kernel
set_option maxRecDepth 20000 in
theorem ggX2_take_X2_planned : GoodIn wsX2_take wsX2_planned := goodIn_r _ [7, 8, 9, 10, 11, 12, 6, 13, 14, 15, 16, 17, 18, 19, 20, 21, 22, 23, 24, 25, 26, 27, 28, 29, 30, 31, 32, 33, 34, 35, 36, 37, 38, 39, 40, 41, 42, 43, 44, 45, 46, 47, 48, 49, 50, 51, 52, 53, 54, 55, 56, 57, 58, 59, 60, 61, 62, 63, 64, 65, 66, 67, 68, 69, 70, 71, 72, 73, 74, 75, 76, 77, 78, 79, 80, 81, 82, 83, 84, 85, 86, 87, 88, 89, 90, 91, 92, 93, 94, 95, 96, 97, 98, 99, 100, 101, 102, 103, 104, 105, 106, 107, 108, 109, 110, 111, 112, 113, 114, 115, 116, 117, 118, 119, 120, 121, 122, 123, 124, 125, 126, 127, 128, 129, 130, 146, 147, 148, 131, 132, 133, 134, 135, 136, 137, 138, 139, 140, 141, 142, 143, 144, 145] (by decide +kernel) (by decide +kernel)
set_option maxRecDepth 20000 in
theorem gX2_take_X2_planned : GoodIn wsX2_take (wsV RX2 111 RX2 yX2_planned wsX2_planned) := goodIn_app (goodIn_of _ (by decide +kernel)) ggX2_take_X2_planned
theorem dX2_take_0 : decode cX2_take 0 = .ok (.aload_n 0, 1) := by decide +kernel
theorem dX2_take_1 : decode cX2_take 1 = .ok (.invokevirtual 111, 3) := by decide +kernel
theorem dX2_take_4 : decode cX2_take 4 = .ok (.astore_n 1, 1) := by decide +kernel
theorem dX2_take_5 : decode cX2_take 5 = .ok (.iconst 0, 1) := by decide +kernel
theorem dX2_take_6 : decode cX2_take 6 = .ok (.istore_n 2, 1) := by decide +kernel
theorem dX2_take_7 : decode cX2_take 7 = .ok (.iconst 0, 1) := by decide +kernel
theorem dX2_take_8 : decode cX2_take 8 = .ok (.istore_n 3, 1) := by decide +kernel
theorem dX2_take_9 : decode cX2_take 9 = .ok (.iload_n 3, 1) := by decide +kernel
theorem dX2_take_10 : decode cX2_take 10 = .ok (.bipush 25, 2) := by decide +kernel
theorem dX2_take_12 : decode cX2_take 12 = .ok (.if_icmp .ge 39, 3) := by decide +kernel
theorem dX2_take_15 : decode cX2_take 15 = .ok (.aload_n 0, 1) := by decide +kernel
theorem dX2_take_16 : decode cX2_take 16 = .ok (.getfield 26, 3) := by decide +kernel
theorem dX2_take_19 : decode cX2_take 19 = .ok (.iload_n 3, 1) := by decide +kernel
theorem dX2_take_20 : decode cX2_take 20 = .ok (.iaload, 1) := by decide +kernel
theorem dX2_take_21 : decode cX2_take 21 = .ok (.aload_n 1, 1) := by decide +kernel
theorem dX2_take_22 : decode cX2_take 22 = .ok (.getfield 141, 3) := by decide +kernel
theorem dX2_take_25 : decode cX2_take 25 = .ok (.iload_n 3, 1) := by decide +kernel
theorem dX2_take_26 : decode cX2_take 26 = .ok (.iaload, 1) := by decide +kernel
theorem dX2_take_27 : decode cX2_take 27 = .ok (.if_icmp .eq 18, 3) := by decide +kernel
theorem dX2_take_30 : decode cX2_take 30 = .ok (.iinc 2 1, 3) := by decide +kernel
theorem dX2_take_33 : decode cX2_take 33 = .ok (.aload_n 0, 1) := by decide +kernel
theorem dX2_take_34 : decode cX2_take 34 = .ok (.getfield 26, 3) := by decide +kernel
theorem dX2_take_37 : decode cX2_take 37 = .ok (.iload_n 3, 1) := by decide +kernel
theorem dX2_take_38 : decode cX2_take 38 = .ok (.aload_n 1, 1) := by decide +kernel
theorem dX2_take_39 : decode cX2_take 39 = .ok (.getfield 141, 3) := by decide +kernel
theorem dX2_take_42 : decode cX2_take 42 = .ok (.iload_n 3, 1) := by decide +kernel
theorem dX2_take_43 : decode cX2_take 43 = .ok (.iaload, 1) := by decide +kernel
theorem dX2_take_44 : decode cX2_take 44 = .ok (.iastore, 1) := by decide +kernel
theorem dX2_take_45 : decode cX2_take 45 = .ok (.iinc 3 1, 3) := by decide +kernel
theorem dX2_take_48 : decode cX2_take 48 = .ok (.goto (-39), 3) := by decide +kernel
theorem dX2_take_51 : decode cX2_take 51 = .ok (.iload_n 2, 1) := by decide +kernel
theorem dX2_take_52 : decode cX2_take 52 = .ok (.ireturn, 1) := by decide +kernel
set_option maxRecDepth 20000 in
theorem ggX2_whyNot_X2_faultByHand : GoodIn wsX2_whyNot wsX2_faultByHand := goodIn_r _ [6, 7, 8, 9, 10, 11, 12, 13, 14, 15, 5, 16, 17, 18, 19, 20, 21, 22, 23, 147, 148, 149, 150, 151, 152, 153, 154, 155, 156, 157, 158, 159, 160, 161, 162, 163, 164] (by decide +kernel) (by decide +kernel)
set_option maxRecDepth 20000 in
theorem gX2_whyNot_X2_faultByHand : GoodIn wsX2_whyNot (wsV RX2 185 RX2 yX2_faultByHand wsX2_faultByHand) := goodIn_app (goodIn_of _ (by decide +kernel)) ggX2_whyNot_X2_faultByHand
set_option maxRecDepth 20000 in
theorem ggX2_whyNot_X2_costByHand : GoodIn wsX2_whyNot wsX2_costByHand := goodIn_r _ [27, 7, 8, 28, 9, 10, 29, 12, 13, 14, 15, 5, 16, 17, 18, 19, 20, 21, 22, 23, 30, 31, 32, 33, 34, 35, 36, 37, 38, 39, 40, 41, 42, 43, 44, 45, 46, 47, 48, 147, 148, 149, 150, 151, 152, 153, 154, 155, 156, 157, 158, 159, 160, 161, 162, 163, 164] (by decide +kernel) (by decide +kernel)
set_option maxRecDepth 20000 in
theorem gX2_whyNot_X2_costByHand : GoodIn wsX2_whyNot (wsV RX2 189 RX2 yX2_costByHand wsX2_costByHand) := goodIn_app (goodIn_of _ (by decide +kernel)) ggX2_whyNot_X2_costByHand
set_option maxRecDepth 20000 in
theorem ggX2_whyNot_X2_planned : GoodIn wsX2_whyNot wsX2_planned := goodIn_r _ [52, 53, 54, 55, 56, 57, 5, 58, 28, 29, 7, 8, 9, 10, 11, 59, 60, 61, 62, 63, 64, 65, 66, 67, 68, 69, 70, 71, 72, 73, 74, 75, 76, 77, 78, 79, 80, 81, 82, 83, 17, 18, 19, 30, 31, 32, 33, 34, 35, 36, 37, 38, 39, 40, 41, 42, 43, 44, 45, 46, 47, 48, 84, 85, 86, 87, 88, 89, 90, 91, 92, 93, 94, 95, 96, 97, 98, 99, 100, 101, 102, 103, 104, 105, 106, 107, 108, 109, 110, 111, 112, 113, 114, 115, 116, 117, 118, 119, 120, 121, 122, 123, 124, 125, 126, 127, 128, 129, 130, 131, 147, 148, 149, 150, 151, 152, 153, 154, 155, 156, 157, 158, 159, 160, 161, 162, 163, 164, 132, 133, 134, 135, 136, 137, 138, 139, 140, 141, 142, 143, 144, 145, 146] (by decide +kernel) (by decide +kernel)
set_option maxRecDepth 20000 in
theorem gX2_whyNot_X2_planned : GoodIn wsX2_whyNot (wsV RX2 111 RX2 yX2_planned wsX2_planned) := goodIn_app (goodIn_of _ (by decide +kernel)) ggX2_whyNot_X2_planned
theorem dX2_whyNot_0 : decode cX2_whyNot 0 = .ok (.aload_n 0, 1) := by decide +kernel
theorem dX2_whyNot_1 : decode cX2_whyNot 1 = .ok (.invokevirtual 185, 3) := by decide +kernel
theorem dX2_whyNot_4 : decode cX2_whyNot 4 = .ok (.istore_n 1, 1) := by decide +kernel
theorem dX2_whyNot_5 : decode cX2_whyNot 5 = .ok (.iload_n 1, 1) := by decide +kernel
theorem dX2_whyNot_6 : decode cX2_whyNot 6 = .ok (.ifCond .eq 5, 3) := by decide +kernel
theorem dX2_whyNot_9 : decode cX2_whyNot 9 = .ok (.iload_n 1, 1) := by decide +kernel
theorem dX2_whyNot_10 : decode cX2_whyNot 10 = .ok (.ireturn, 1) := by decide +kernel
theorem dX2_whyNot_11 : decode cX2_whyNot 11 = .ok (.aload_n 0, 1) := by decide +kernel
theorem dX2_whyNot_12 : decode cX2_whyNot 12 = .ok (.invokevirtual 189, 3) := by decide +kernel
theorem dX2_whyNot_15 : decode cX2_whyNot 15 = .ok (.aload_n 0, 1) := by decide +kernel
theorem dX2_whyNot_16 : decode cX2_whyNot 16 = .ok (.invokevirtual 111, 3) := by decide +kernel
theorem dX2_whyNot_19 : decode cX2_whyNot 19 = .ok (.getfield 115, 3) := by decide +kernel
theorem dX2_whyNot_22 : decode cX2_whyNot 22 = .ok (.if_icmp .le 7, 3) := by decide +kernel
theorem dX2_whyNot_25 : decode cX2_whyNot 25 = .ok (.iconst 4, 1) := by decide +kernel
theorem dX2_whyNot_26 : decode cX2_whyNot 26 = .ok (.goto 4, 3) := by decide +kernel
theorem dX2_whyNot_29 : decode cX2_whyNot 29 = .ok (.iconst 0, 1) := by decide +kernel
theorem dX2_whyNot_30 : decode cX2_whyNot 30 = .ok (.ireturn, 1) := by decide +kernel
set_option maxRecDepth 20000 in
theorem ggX2_handCost_X2_faultByHand : GoodIn wsX2_handCost wsX2_faultByHand := goodIn_r _ [7, 8, 9, 10, 11, 12, 13, 14, 15, 16, 6, 17, 18, 19, 20, 21, 22, 23, 24, 50, 51, 52, 53, 54, 55, 56, 57, 58, 59, 60, 61, 62, 63, 64, 65, 66, 67] (by decide +kernel) (by decide +kernel)
set_option maxRecDepth 20000 in
theorem gX2_handCost_X2_faultByHand : GoodIn wsX2_handCost (wsV RX2 185 RX2 yX2_faultByHand wsX2_faultByHand) := goodIn_app (goodIn_of _ (by decide +kernel)) ggX2_handCost_X2_faultByHand
set_option maxRecDepth 20000 in
theorem ggX2_handCost_X2_costByHand : GoodIn wsX2_handCost wsX2_costByHand := goodIn_r _ [28, 8, 9, 29, 10, 11, 30, 13, 14, 15, 16, 6, 17, 18, 19, 20, 21, 22, 23, 24, 31, 32, 33, 34, 35, 36, 37, 38, 39, 40, 41, 42, 43, 44, 45, 46, 47, 48, 49, 50, 51, 52, 53, 54, 55, 56, 57, 58, 59, 60, 61, 62, 63, 64, 65, 66, 67] (by decide +kernel) (by decide +kernel)
set_option maxRecDepth 20000 in
theorem gX2_handCost_X2_costByHand : GoodIn wsX2_handCost (wsV RX2 189 RX2 yX2_costByHand wsX2_costByHand) := goodIn_app (goodIn_of _ (by decide +kernel)) ggX2_handCost_X2_costByHand
theorem dX2_handCost_0 : decode cX2_handCost 0 = .ok (.aload_n 0, 1) := by decide +kernel
theorem dX2_handCost_1 : decode cX2_handCost 1 = .ok (.invokevirtual 185, 3) := by decide +kernel
theorem dX2_handCost_4 : decode cX2_handCost 4 = .ok (.ifCond .eq 13, 3) := by decide +kernel
theorem dX2_handCost_7 : decode cX2_handCost 7 = .ok (.new 122, 3) := by decide +kernel
theorem dX2_handCost_10 : decode cX2_handCost 10 = .ok (.dup, 1) := by decide +kernel
theorem dX2_handCost_11 : decode cX2_handCost 11 = .ok (.ldc 192, 2) := by decide +kernel
theorem dX2_handCost_13 : decode cX2_handCost 13 = .ok (.invokespecial 126, 3) := by decide +kernel
theorem dX2_handCost_16 : decode cX2_handCost 16 = .ok (.athrow, 1) := by decide +kernel
theorem dX2_handCost_17 : decode cX2_handCost 17 = .ok (.aload_n 0, 1) := by decide +kernel
theorem dX2_handCost_18 : decode cX2_handCost 18 = .ok (.invokevirtual 189, 3) := by decide +kernel
theorem dX2_handCost_21 : decode cX2_handCost 21 = .ok (.ireturn, 1) := by decide +kernel
set_option maxRecDepth 20000 in
theorem ggX2_middle_X2_costOfAllTo : GoodIn wsX2_middle wsX2_costOfAllTo := goodIn_r _ [9, 3, 4, 10, 11, 12, 13, 14, 8, 15, 16, 17, 18, 19, 20, 21, 22, 23, 24, 25, 26, 27, 28, 29, 30, 31, 32, 33, 34, 35, 36, 37, 38, 39, 40, 41, 42] (by decide +kernel) (by decide +kernel)
set_option maxRecDepth 20000 in
theorem gX2_middle_X2_costOfAllTo : GoodIn wsX2_middle (wsV RX2 196 RX2 yX2_costOfAllTo wsX2_costOfAllTo) := goodIn_app (goodIn_of _ (by decide +kernel)) ggX2_middle_X2_costOfAllTo
theorem dX2_middle_0 : decode cX2_middle 0 = .ok (.aload_n 0, 1) := by decide +kernel
theorem dX2_middle_1 : decode cX2_middle 1 = .ok (.getfield 12, 3) := by decide +kernel
theorem dX2_middle_4 : decode cX2_middle 4 = .ok (.getfield 167, 3) := by decide +kernel
theorem dX2_middle_7 : decode cX2_middle 7 = .ok (.ifCond .ne 13, 3) := by decide +kernel
theorem dX2_middle_10 : decode cX2_middle 10 = .ok (.new 122, 3) := by decide +kernel
theorem dX2_middle_13 : decode cX2_middle 13 = .ok (.dup, 1) := by decide +kernel
theorem dX2_middle_14 : decode cX2_middle 14 = .ok (.ldc 194, 2) := by decide +kernel
theorem dX2_middle_16 : decode cX2_middle 16 = .ok (.invokespecial 126, 3) := by decide +kernel
theorem dX2_middle_19 : decode cX2_middle 19 = .ok (.athrow, 1) := by decide +kernel
theorem dX2_middle_20 : decode cX2_middle 20 = .ok (.iconst 0, 1) := by decide +kernel
theorem dX2_middle_21 : decode cX2_middle 21 = .ok (.istore_n 1, 1) := by decide +kernel
theorem dX2_middle_22 : decode cX2_middle 22 = .ok (.aload_n 0, 1) := by decide +kernel
theorem dX2_middle_23 : decode cX2_middle 23 = .ok (.iconst 0, 1) := by decide +kernel
theorem dX2_middle_24 : decode cX2_middle 24 = .ok (.invokevirtual 196, 3) := by decide +kernel
theorem dX2_middle_27 : decode cX2_middle 27 = .ok (.istore_n 2, 1) := by decide +kernel
theorem dX2_middle_28 : decode cX2_middle 28 = .ok (.iconst 1, 1) := by decide +kernel
theorem dX2_middle_29 : decode cX2_middle 29 = .ok (.istore_n 3, 1) := by decide +kernel
theorem dX2_middle_30 : decode cX2_middle 30 = .ok (.iload_n 3, 1) := by decide +kernel
theorem dX2_middle_31 : decode cX2_middle 31 = .ok (.bipush 100, 2) := by decide +kernel
theorem dX2_middle_33 : decode cX2_middle 33 = .ok (.if_icmp .gt 27, 3) := by decide +kernel
theorem dX2_middle_36 : decode cX2_middle 36 = .ok (.aload_n 0, 1) := by decide +kernel
theorem dX2_middle_37 : decode cX2_middle 37 = .ok (.iload_n 3, 1) := by decide +kernel
theorem dX2_middle_38 : decode cX2_middle 38 = .ok (.invokevirtual 196, 3) := by decide +kernel
theorem dX2_middle_41 : decode cX2_middle 41 = .ok (.istore 4, 2) := by decide +kernel
theorem dX2_middle_43 : decode cX2_middle 43 = .ok (.iload 4, 2) := by decide +kernel
theorem dX2_middle_45 : decode cX2_middle 45 = .ok (.iload_n 2, 1) := by decide +kernel
theorem dX2_middle_46 : decode cX2_middle 46 = .ok (.if_icmp .ge 8, 3) := by decide +kernel
theorem dX2_middle_49 : decode cX2_middle 49 = .ok (.iload 4, 2) := by decide +kernel
theorem dX2_middle_51 : decode cX2_middle 51 = .ok (.istore_n 2, 1) := by decide +kernel
theorem dX2_middle_52 : decode cX2_middle 52 = .ok (.iload_n 3, 1) := by decide +kernel
theorem dX2_middle_53 : decode cX2_middle 53 = .ok (.istore_n 1, 1) := by decide +kernel
theorem dX2_middle_54 : decode cX2_middle 54 = .ok (.iinc 3 1, 3) := by decide +kernel
theorem dX2_middle_57 : decode cX2_middle 57 = .ok (.goto (-27), 3) := by decide +kernel
theorem dX2_middle_60 : decode cX2_middle 60 = .ok (.iload_n 1, 1) := by decide +kernel
theorem dX2_middle_61 : decode cX2_middle 61 = .ok (.ireturn, 1) := by decide +kernel
set_option maxRecDepth 20000 in
theorem ggX2_about_X2_checkNumber : GoodIn wsX2_about wsX2_checkNumber := goodIn_ca (goodIn_r _ [7, 8, 9, 10, 11, 12, 6, 13, 14, 15, 16, 17, 18, 19, 20, 21, 43, 44, 45, 46, 47, 48, 49, 50, 51, 52, 53, 54, 55, 56, 57, 40, 41, 42] (by decide +kernel) (by decide +kernel)) (goodIn_sub (fun _ h => List.mem_cons_of_mem _ (List.mem_append_left _ (List.mem_append_right _ h))) (by decide +kernel))
set_option maxRecDepth 20000 in
theorem gX2_about_X2_checkNumber : GoodIn wsX2_about (wsV RX2 75 RX2 yX2_checkNumber wsX2_checkNumber) := goodIn_app (goodIn_of _ (by decide +kernel)) ggX2_about_X2_checkNumber
set_option maxRecDepth 20000 in
theorem ggX2_about_X2_checkRange : GoodIn wsX2_about wsX2_checkRange := goodIn_ca (goodIn_r _ [24, 25, 26] (by decide +kernel) (by decide +kernel)) (goodIn_sub (fun _ h => List.mem_cons_of_mem _ (List.mem_append_right _ h)) (by decide +kernel))
set_option maxRecDepth 20000 in
theorem gX2_about_X2_checkRange : GoodIn wsX2_about (va_wsS RX2 93 yX2_checkRange wsX2_checkRange) := goodIn_app (goodIn_of _ (by decide +kernel)) ggX2_about_X2_checkRange
set_option maxRecDepth 20000 in
theorem ggX2_about_X2_side : GoodIn wsX2_about wsX2_side := goodIn_r _ [13, 14, 15, 43, 44, 45, 46, 47, 48, 49, 50, 51, 52, 53, 54, 55, 56, 57] (by decide +kernel) (by decide +kernel)
set_option maxRecDepth 20000 in
theorem gX2_about_X2_side : GoodIn wsX2_about (wsV RX2 83 RX2 yX2_side wsX2_side) := goodIn_app (goodIn_of _ (by decide +kernel)) ggX2_about_X2_side
set_option maxRecDepth 20000 in
theorem ggX2_about_X2_handTo : GoodIn wsX2_about wsX2_handTo := goodIn_r _ [30, 15, 31, 32, 33, 34, 6, 35, 43, 44, 45, 46, 47, 48, 49, 50, 51, 52, 53, 54, 55, 56, 57, 40, 41, 42] (by decide +kernel) (by decide +kernel)
set_option maxRecDepth 20000 in
theorem gX2_about_X2_handTo : GoodIn wsX2_about (wsV RX2 199 RX2 yX2_handTo wsX2_handTo) := goodIn_app (goodIn_of _ (by decide +kernel)) ggX2_about_X2_handTo
set_option maxRecDepth 20000 in
theorem ggX2_about_X2_handFrom : GoodIn wsX2_about wsX2_handFrom := goodIn_r _ [39, 14, 31, 32, 33, 34, 6, 35, 43, 44, 45, 46, 47, 48, 49, 50, 51, 52, 53, 54, 55, 56, 57, 40, 41, 42] (by decide +kernel) (by decide +kernel)
set_option maxRecDepth 20000 in
theorem gX2_about_X2_handFrom : GoodIn wsX2_about (wsV RX2 202 RX2 yX2_handFrom wsX2_handFrom) := goodIn_app (goodIn_of _ (by decide +kernel)) ggX2_about_X2_handFrom
theorem dX2_about_0 : decode cX2_about 0 = .ok (.aload_n 0, 1) := by decide +kernel
theorem dX2_about_1 : decode cX2_about 1 = .ok (.iload_n 1, 1) := by decide +kernel
theorem dX2_about_2 : decode cX2_about 2 = .ok (.iload_n 2, 1) := by decide +kernel
theorem dX2_about_3 : decode cX2_about 3 = .ok (.invokevirtual 75, 3) := by decide +kernel
theorem dX2_about_6 : decode cX2_about 6 = .ok (.iload_n 3, 1) := by decide +kernel
theorem dX2_about_7 : decode cX2_about 7 = .ok (.iconst 0, 1) := by decide +kernel
theorem dX2_about_8 : decode cX2_about 8 = .ok (.iconst 2, 1) := by decide +kernel
theorem dX2_about_9 : decode cX2_about 9 = .ok (.invokestatic 93, 3) := by decide +kernel
theorem dX2_about_12 : decode cX2_about 12 = .ok (.iload_n 3, 1) := by decide +kernel
theorem dX2_about_13 : decode cX2_about 13 = .ok (.ifCond .ne 14, 3) := by decide +kernel
theorem dX2_about_16 : decode cX2_about 16 = .ok (.aload_n 0, 1) := by decide +kernel
theorem dX2_about_17 : decode cX2_about 17 = .ok (.iload_n 1, 1) := by decide +kernel
theorem dX2_about_18 : decode cX2_about 18 = .ok (.invokevirtual 83, 3) := by decide +kernel
theorem dX2_about_21 : decode cX2_about 21 = .ok (.getfield 90, 3) := by decide +kernel
theorem dX2_about_24 : decode cX2_about 24 = .ok (.iload_n 2, 1) := by decide +kernel
theorem dX2_about_25 : decode cX2_about 25 = .ok (.iaload, 1) := by decide +kernel
theorem dX2_about_26 : decode cX2_about 26 = .ok (.ireturn, 1) := by decide +kernel
theorem dX2_about_27 : decode cX2_about 27 = .ok (.iload_n 3, 1) := by decide +kernel
theorem dX2_about_28 : decode cX2_about 28 = .ok (.iconst 1, 1) := by decide +kernel
theorem dX2_about_29 : decode cX2_about 29 = .ok (.if_icmp .ne 14, 3) := by decide +kernel
theorem dX2_about_32 : decode cX2_about 32 = .ok (.aload_n 0, 1) := by decide +kernel
theorem dX2_about_33 : decode cX2_about 33 = .ok (.iload_n 1, 1) := by decide +kernel
theorem dX2_about_34 : decode cX2_about 34 = .ok (.invokevirtual 83, 3) := by decide +kernel
theorem dX2_about_37 : decode cX2_about 37 = .ok (.getfield 87, 3) := by decide +kernel
theorem dX2_about_40 : decode cX2_about 40 = .ok (.iload_n 2, 1) := by decide +kernel
theorem dX2_about_41 : decode cX2_about 41 = .ok (.iaload, 1) := by decide +kernel
theorem dX2_about_42 : decode cX2_about 42 = .ok (.ireturn, 1) := by decide +kernel
theorem dX2_about_43 : decode cX2_about 43 = .ok (.iload_n 1, 1) := by decide +kernel
theorem dX2_about_44 : decode cX2_about 44 = .ok (.ifCond .eq 11, 3) := by decide +kernel
theorem dX2_about_47 : decode cX2_about 47 = .ok (.aload_n 0, 1) := by decide +kernel
theorem dX2_about_48 : decode cX2_about 48 = .ok (.iload_n 2, 1) := by decide +kernel
theorem dX2_about_49 : decode cX2_about 49 = .ok (.invokevirtual 199, 3) := by decide +kernel
theorem dX2_about_52 : decode cX2_about 52 = .ok (.goto 8, 3) := by decide +kernel
theorem dX2_about_55 : decode cX2_about 55 = .ok (.aload_n 0, 1) := by decide +kernel
theorem dX2_about_56 : decode cX2_about 56 = .ok (.iload_n 2, 1) := by decide +kernel
theorem dX2_about_57 : decode cX2_about 57 = .ok (.invokevirtual 202, 3) := by decide +kernel
theorem dX2_about_60 : decode cX2_about 60 = .ok (.ireturn, 1) := by decide +kernel
set_option maxRecDepth 20000 in
theorem ggX2_count_X2_checkRange : GoodIn wsX2_count wsX2_checkRange := goodIn_ca (goodIn_r _ [12, 13, 14] (by decide +kernel) (by decide +kernel)) (goodIn_sub (fun _ h => List.mem_cons_of_mem _ (List.mem_append_right _ h)) (by decide +kernel))
set_option maxRecDepth 20000 in
theorem gX2_count_X2_checkRange : GoodIn wsX2_count (va_wsS RX2 93 yX2_checkRange wsX2_checkRange) := goodIn_app (goodIn_of _ (by decide +kernel)) ggX2_count_X2_checkRange
set_option maxRecDepth 20000 in
theorem ggX2_count_X2_planned : GoodIn wsX2_count wsX2_planned := goodIn_r _ [18, 19, 20, 21, 22, 23, 11, 24, 6, 7, 1, 2, 25, 3, 26, 27, 28, 29, 30, 31, 32, 33, 34, 35, 36, 37, 38, 39, 40, 41, 42, 43, 44, 45, 46, 47, 48, 49, 50, 51, 52, 53, 54, 55, 56, 57, 58, 59, 60, 61, 62, 63, 64, 65, 66, 67, 68, 4, 5, 69, 70, 71, 72, 73, 74, 75, 76, 77, 78, 79, 80, 81, 82, 83, 84, 85, 86, 87, 88, 89, 90, 91, 92, 93, 94, 95, 96, 97, 98, 99, 100, 101, 102, 103, 104, 105, 106, 107, 108, 109, 110, 111, 112, 113, 114, 115, 116, 117, 118, 119, 123, 124, 125, 126, 127, 128, 129, 130, 131, 132, 133, 134, 135, 136, 137, 138, 139, 140, 141, 142, 143, 144, 145, 146, 147, 148, 149, 150, 151, 152, 153, 154, 155] (by decide +kernel) (by decide +kernel)
set_option maxRecDepth 20000 in
theorem gX2_count_X2_planned : GoodIn wsX2_count (wsV RX2 111 RX2 yX2_planned wsX2_planned) := goodIn_app (goodIn_of _ (by decide +kernel)) ggX2_count_X2_planned
set_option maxRecDepth 20000 in
theorem ggX2_count_X2_sum : GoodIn wsX2_count wsX2_sum := goodIn_r _ [122] (by decide +kernel) (by decide +kernel)
set_option maxRecDepth 20000 in
theorem gX2_count_X2_sum : GoodIn wsX2_count (va_wsS RX2 205 yX2_sum wsX2_sum) := goodIn_app (goodIn_of _ (by decide +kernel)) ggX2_count_X2_sum
theorem dX2_count_0 : decode cX2_count 0 = .ok (.iload_n 1, 1) := by decide +kernel
theorem dX2_count_1 : decode cX2_count 1 = .ok (.iconst 0, 1) := by decide +kernel
theorem dX2_count_2 : decode cX2_count 2 = .ok (.bipush 6, 2) := by decide +kernel
theorem dX2_count_4 : decode cX2_count 4 = .ok (.invokestatic 93, 3) := by decide +kernel
theorem dX2_count_7 : decode cX2_count 7 = .ok (.iload_n 1, 1) := by decide +kernel
theorem dX2_count_8 : decode cX2_count 8 = .ok (.tableswitch 76 0 5 #[40, 48, 56, 61, 66, 71], 40) := by decide +kernel
theorem dX2_count_48 : decode cX2_count 48 = .ok (.aload_n 0, 1) := by decide +kernel
theorem dX2_count_49 : decode cX2_count 49 = .ok (.getfield 12, 3) := by decide +kernel
theorem dX2_count_52 : decode cX2_count 52 = .ok (.getfield 167, 3) := by decide +kernel
theorem dX2_count_55 : decode cX2_count 55 = .ok (.ireturn, 1) := by decide +kernel
theorem dX2_count_56 : decode cX2_count 56 = .ok (.aload_n 0, 1) := by decide +kernel
theorem dX2_count_57 : decode cX2_count 57 = .ok (.getfield 16, 3) := by decide +kernel
theorem dX2_count_60 : decode cX2_count 60 = .ok (.getfield 167, 3) := by decide +kernel
theorem dX2_count_63 : decode cX2_count 63 = .ok (.ireturn, 1) := by decide +kernel
theorem dX2_count_64 : decode cX2_count 64 = .ok (.aload_n 0, 1) := by decide +kernel
theorem dX2_count_65 : decode cX2_count 65 = .ok (.getfield 48, 3) := by decide +kernel
theorem dX2_count_68 : decode cX2_count 68 = .ok (.ireturn, 1) := by decide +kernel
theorem dX2_count_69 : decode cX2_count 69 = .ok (.aload_n 0, 1) := by decide +kernel
theorem dX2_count_70 : decode cX2_count 70 = .ok (.getfield 52, 3) := by decide +kernel
theorem dX2_count_73 : decode cX2_count 73 = .ok (.ireturn, 1) := by decide +kernel
theorem dX2_count_74 : decode cX2_count 74 = .ok (.aload_n 0, 1) := by decide +kernel
theorem dX2_count_75 : decode cX2_count 75 = .ok (.getfield 55, 3) := by decide +kernel
theorem dX2_count_78 : decode cX2_count 78 = .ok (.ireturn, 1) := by decide +kernel
theorem dX2_count_79 : decode cX2_count 79 = .ok (.aload_n 0, 1) := by decide +kernel
theorem dX2_count_80 : decode cX2_count 80 = .ok (.getfield 58, 3) := by decide +kernel
theorem dX2_count_83 : decode cX2_count 83 = .ok (.ireturn, 1) := by decide +kernel
theorem dX2_count_84 : decode cX2_count 84 = .ok (.aload_n 0, 1) := by decide +kernel
theorem dX2_count_85 : decode cX2_count 85 = .ok (.invokevirtual 111, 3) := by decide +kernel
theorem dX2_count_88 : decode cX2_count 88 = .ok (.getfield 141, 3) := by decide +kernel
theorem dX2_count_91 : decode cX2_count 91 = .ok (.invokestatic 205, 3) := by decide +kernel
theorem dX2_count_94 : decode cX2_count 94 = .ok (.ireturn, 1) := by decide +kernel
theorem dX2_checkRange_0 : decode cX2_checkRange 0 = .ok (.iload_n 0, 1) := by decide +kernel
theorem dX2_checkRange_1 : decode cX2_checkRange 1 = .ok (.iload_n 1, 1) := by decide +kernel
theorem dX2_checkRange_2 : decode cX2_checkRange 2 = .ok (.if_icmp .lt 8, 3) := by decide +kernel
theorem dX2_checkRange_5 : decode cX2_checkRange 5 = .ok (.iload_n 0, 1) := by decide +kernel
theorem dX2_checkRange_6 : decode cX2_checkRange 6 = .ok (.iload_n 2, 1) := by decide +kernel
theorem dX2_checkRange_7 : decode cX2_checkRange 7 = .ok (.if_icmp .le 13, 3) := by decide +kernel
theorem dX2_checkRange_10 : decode cX2_checkRange 10 = .ok (.new 209, 3) := by decide +kernel
theorem dX2_checkRange_13 : decode cX2_checkRange 13 = .ok (.dup, 1) := by decide +kernel
theorem dX2_checkRange_14 : decode cX2_checkRange 14 = .ok (.ldc 211, 2) := by decide +kernel
theorem dX2_checkRange_16 : decode cX2_checkRange 16 = .ok (.invokespecial 213, 3) := by decide +kernel
theorem dX2_checkRange_19 : decode cX2_checkRange 19 = .ok (.athrow, 1) := by decide +kernel
theorem dX2_checkRange_20 : decode cX2_checkRange 20 = .ok (.return_, 1) := by decide +kernel
set_option maxRecDepth 20000 in
theorem ggX2_checkPlaceAndAmount_X2_checkRange : GoodIn wsX2_checkPlaceAndAmount wsX2_checkRange := goodIn_ca (goodIn_r _ [4, 5, 6] (by decide +kernel) (by decide +kernel)) (goodIn_sub (fun _ h => List.mem_cons_of_mem _ (List.mem_append_right _ h)) (by decide +kernel))
set_option maxRecDepth 20000 in
theorem gX2_checkPlaceAndAmount_X2_checkRange : GoodIn wsX2_checkPlaceAndAmount (va_wsS RX2 93 yX2_checkRange wsX2_checkRange) := goodIn_app (goodIn_of _ (by decide +kernel)) ggX2_checkPlaceAndAmount_X2_checkRange
theorem dX2_checkPlaceAndAmount_0 : decode cX2_checkPlaceAndAmount 0 = .ok (.iload_n 0, 1) := by decide +kernel
theorem dX2_checkPlaceAndAmount_1 : decode cX2_checkPlaceAndAmount 1 = .ok (.iconst 0, 1) := by decide +kernel
theorem dX2_checkPlaceAndAmount_2 : decode cX2_checkPlaceAndAmount 2 = .ok (.bipush 100, 2) := by decide +kernel
theorem dX2_checkPlaceAndAmount_4 : decode cX2_checkPlaceAndAmount 4 = .ok (.invokestatic 93, 3) := by decide +kernel
theorem dX2_checkPlaceAndAmount_7 : decode cX2_checkPlaceAndAmount 7 = .ok (.iload_n 1, 1) := by decide +kernel
theorem dX2_checkPlaceAndAmount_8 : decode cX2_checkPlaceAndAmount 8 = .ok (.iconst 1, 1) := by decide +kernel
theorem dX2_checkPlaceAndAmount_9 : decode cX2_checkPlaceAndAmount 9 = .ok (.bipush 20, 2) := by decide +kernel
theorem dX2_checkPlaceAndAmount_11 : decode cX2_checkPlaceAndAmount 11 = .ok (.invokestatic 93, 3) := by decide +kernel
theorem dX2_checkPlaceAndAmount_14 : decode cX2_checkPlaceAndAmount 14 = .ok (.return_, 1) := by decide +kernel
set_option maxRecDepth 20000 in
theorem ggX2_checkNumber_X2_side : GoodIn wsX2_checkNumber wsX2_side := goodIn_r _ [7, 8, 9, 16, 17, 18, 19, 20, 21, 22, 23, 24, 25, 26, 27, 28, 29, 30] (by decide +kernel) (by decide +kernel)
set_option maxRecDepth 20000 in
theorem gX2_checkNumber_X2_side : GoodIn wsX2_checkNumber (wsV RX2 83 RX2 yX2_side wsX2_side) := goodIn_app (goodIn_of _ (by decide +kernel)) ggX2_checkNumber_X2_side
set_option maxRecDepth 20000 in
theorem ggX2_checkNumber_X1_holds : GoodIn wsX2_checkNumber wsX1_holds := goodIn_r _ [14, 15, 31, 32, 33] (by decide +kernel) (by decide +kernel)
set_option maxRecDepth 20000 in
theorem gX2_checkNumber_X1_holds : GoodIn wsX2_checkNumber (wsV RX2 214 RX1 yX1_holds wsX1_holds) := goodIn_app (goodIn_of _ (by decide +kernel)) ggX2_checkNumber_X1_holds
theorem dX2_checkNumber_0 : decode cX2_checkNumber 0 = .ok (.aload_n 0, 1) := by decide +kernel
theorem dX2_checkNumber_1 : decode cX2_checkNumber 1 = .ok (.iload_n 1, 1) := by decide +kernel
theorem dX2_checkNumber_2 : decode cX2_checkNumber 2 = .ok (.invokevirtual 83, 3) := by decide +kernel
theorem dX2_checkNumber_5 : decode cX2_checkNumber 5 = .ok (.iload_n 2, 1) := by decide +kernel
theorem dX2_checkNumber_6 : decode cX2_checkNumber 6 = .ok (.invokevirtual 214, 3) := by decide +kernel
theorem dX2_checkNumber_9 : decode cX2_checkNumber 9 = .ok (.ifCond .ne 13, 3) := by decide +kernel
theorem dX2_checkNumber_12 : decode cX2_checkNumber 12 = .ok (.new 218, 3) := by decide +kernel
theorem dX2_checkNumber_15 : decode cX2_checkNumber 15 = .ok (.dup, 1) := by decide +kernel
theorem dX2_checkNumber_16 : decode cX2_checkNumber 16 = .ok (.ldc 220, 2) := by decide +kernel
theorem dX2_checkNumber_18 : decode cX2_checkNumber 18 = .ok (.invokespecial 222, 3) := by decide +kernel
theorem dX2_checkNumber_21 : decode cX2_checkNumber 21 = .ok (.athrow, 1) := by decide +kernel
theorem dX2_checkNumber_22 : decode cX2_checkNumber 22 = .ok (.return_, 1) := by decide +kernel
set_option maxRecDepth 20000 in
theorem ggX2_checkWay_X2_checkNumber : GoodIn wsX2_checkWay wsX2_checkNumber := goodIn_ca (goodIn_r _ [5, 6, 7, 8, 9, 10, 4, 11, 12, 13, 14, 15, 16, 17, 18, 19, 20, 21, 22, 23, 24, 25, 26, 27, 28, 29, 30, 31, 32, 33, 34, 35, 36, 37] (by decide +kernel) (by decide +kernel)) (goodIn_sub (fun _ h => List.mem_cons_of_mem _ (List.mem_append_right _ h)) (by decide +kernel))
set_option maxRecDepth 20000 in
theorem gX2_checkWay_X2_checkNumber : GoodIn wsX2_checkWay (wsV RX2 75 RX2 yX2_checkNumber wsX2_checkNumber) := goodIn_app (goodIn_of _ (by decide +kernel)) ggX2_checkWay_X2_checkNumber
theorem dX2_checkWay_0 : decode cX2_checkWay 0 = .ok (.aload_n 0, 1) := by decide +kernel
theorem dX2_checkWay_1 : decode cX2_checkWay 1 = .ok (.iconst 0, 1) := by decide +kernel
theorem dX2_checkWay_2 : decode cX2_checkWay 2 = .ok (.iload_n 1, 1) := by decide +kernel
theorem dX2_checkWay_3 : decode cX2_checkWay 3 = .ok (.invokevirtual 75, 3) := by decide +kernel
theorem dX2_checkWay_6 : decode cX2_checkWay 6 = .ok (.aload_n 0, 1) := by decide +kernel
theorem dX2_checkWay_7 : decode cX2_checkWay 7 = .ok (.iconst 1, 1) := by decide +kernel
theorem dX2_checkWay_8 : decode cX2_checkWay 8 = .ok (.iload_n 2, 1) := by decide +kernel
theorem dX2_checkWay_9 : decode cX2_checkWay 9 = .ok (.invokevirtual 75, 3) := by decide +kernel
theorem dX2_checkWay_12 : decode cX2_checkWay 12 = .ok (.return_, 1) := by decide +kernel
set_option maxRecDepth 20000 in
theorem ggX2_addTo_X2_checkPlaceAndAmount : GoodIn wsX2_addTo wsX2_checkPlaceAndAmount := goodIn_ca (goodIn_r _ [7, 8, 9, 6, 10, 11, 12] (by decide +kernel) (by decide +kernel)) (goodIn_sub (fun _ h => List.mem_cons_of_mem _ (List.mem_append_right _ h)) (by decide +kernel))
set_option maxRecDepth 20000 in
theorem gX2_addTo_X2_checkPlaceAndAmount : GoodIn wsX2_addTo (va_wsS RX2 79 yX2_checkPlaceAndAmount wsX2_checkPlaceAndAmount) := goodIn_app (goodIn_of _ (by decide +kernel)) ggX2_addTo_X2_checkPlaceAndAmount
set_option maxRecDepth 20000 in
theorem ggX2_addTo_X1_isFull : GoodIn wsX2_addTo wsX1_isFull := goodIn_r _ [17, 18, 41, 42, 43] (by decide +kernel) (by decide +kernel)
set_option maxRecDepth 20000 in
theorem gX2_addTo_X1_isFull : GoodIn wsX2_addTo (wsV RX2 223 RX1 yX1_isFull wsX1_isFull) := goodIn_app (goodIn_of _ (by decide +kernel)) ggX2_addTo_X1_isFull
set_option maxRecDepth 20000 in
theorem ggX2_addTo_X1_add : GoodIn wsX2_addTo wsX1_add := goodIn_r _ [22, 23, 18, 24, 25, 14, 15, 16, 17, 41, 42, 43] (by decide +kernel) (by decide +kernel)
set_option maxRecDepth 20000 in
theorem gX2_addTo_X1_add : GoodIn wsX2_addTo (wsV RX2 228 RX1 yX1_add wsX1_add) := goodIn_app (goodIn_of _ (by decide +kernel)) ggX2_addTo_X1_add
theorem dX2_addTo_0 : decode cX2_addTo 0 = .ok (.iload_n 2, 1) := by decide +kernel
theorem dX2_addTo_1 : decode cX2_addTo 1 = .ok (.iload_n 3, 1) := by decide +kernel
theorem dX2_addTo_2 : decode cX2_addTo 2 = .ok (.invokestatic 79, 3) := by decide +kernel
theorem dX2_addTo_5 : decode cX2_addTo 5 = .ok (.aload_n 1, 1) := by decide +kernel
theorem dX2_addTo_6 : decode cX2_addTo 6 = .ok (.invokevirtual 223, 3) := by decide +kernel
theorem dX2_addTo_9 : decode cX2_addTo 9 = .ok (.ifCond .eq 13, 3) := by decide +kernel
theorem dX2_addTo_12 : decode cX2_addTo 12 = .ok (.new 122, 3) := by decide +kernel
theorem dX2_addTo_15 : decode cX2_addTo 15 = .ok (.dup, 1) := by decide +kernel
theorem dX2_addTo_16 : decode cX2_addTo 16 = .ok (.ldc 226, 2) := by decide +kernel
theorem dX2_addTo_18 : decode cX2_addTo 18 = .ok (.invokespecial 126, 3) := by decide +kernel
theorem dX2_addTo_21 : decode cX2_addTo 21 = .ok (.athrow, 1) := by decide +kernel
theorem dX2_addTo_22 : decode cX2_addTo 22 = .ok (.aload_n 0, 1) := by decide +kernel
theorem dX2_addTo_23 : decode cX2_addTo 23 = .ok (.iconst 0, 1) := by decide +kernel
theorem dX2_addTo_24 : decode cX2_addTo 24 = .ok (.putfield 61, 3) := by decide +kernel
theorem dX2_addTo_27 : decode cX2_addTo 27 = .ok (.aload_n 1, 1) := by decide +kernel
theorem dX2_addTo_28 : decode cX2_addTo 28 = .ok (.iload_n 2, 1) := by decide +kernel
theorem dX2_addTo_29 : decode cX2_addTo 29 = .ok (.iload_n 3, 1) := by decide +kernel
theorem dX2_addTo_30 : decode cX2_addTo 30 = .ok (.invokevirtual 228, 3) := by decide +kernel
theorem dX2_addTo_33 : decode cX2_addTo 33 = .ok (.ireturn, 1) := by decide +kernel
theorem dX2_side_0 : decode cX2_side 0 = .ok (.iload_n 1, 1) := by decide +kernel
theorem dX2_side_1 : decode cX2_side 1 = .ok (.ifCond .eq 10, 3) := by decide +kernel
theorem dX2_side_4 : decode cX2_side 4 = .ok (.aload_n 0, 1) := by decide +kernel
theorem dX2_side_5 : decode cX2_side 5 = .ok (.getfield 16, 3) := by decide +kernel
theorem dX2_side_8 : decode cX2_side 8 = .ok (.goto 7, 3) := by decide +kernel
theorem dX2_side_11 : decode cX2_side 11 = .ok (.aload_n 0, 1) := by decide +kernel
theorem dX2_side_12 : decode cX2_side 12 = .ok (.getfield 12, 3) := by decide +kernel
theorem dX2_side_15 : decode cX2_side 15 = .ok (.areturn, 1) := by decide +kernel
theorem dX2_wayOf_0 : decode cX2_wayOf 0 = .ok (.iload_n 0, 1) := by decide +kernel
theorem dX2_wayOf_1 : decode cX2_wayOf 1 = .ok (.iconst 5, 1) := by decide +kernel
theorem dX2_wayOf_2 : decode cX2_wayOf 2 = .ok (.imul, 1) := by decide +kernel
theorem dX2_wayOf_3 : decode cX2_wayOf 3 = .ok (.iload_n 1, 1) := by decide +kernel
theorem dX2_wayOf_4 : decode cX2_wayOf 4 = .ok (.iadd, 1) := by decide +kernel
theorem dX2_wayOf_5 : decode cX2_wayOf 5 = .ok (.ireturn, 1) := by decide +kernel
theorem dX2_tell_0 : decode cX2_tell 0 = .ok (.aload_n 0, 1) := by decide +kernel
theorem dX2_tell_1 : decode cX2_tell 1 = .ok (.iload_n 1, 1) := by decide +kernel
theorem dX2_tell_2 : decode cX2_tell 2 = .ok (.iaload, 1) := by decide +kernel
theorem dX2_tell_3 : decode cX2_tell 3 = .ok (.istore_n 3, 1) := by decide +kernel
theorem dX2_tell_4 : decode cX2_tell 4 = .ok (.aload_n 0, 1) := by decide +kernel
theorem dX2_tell_5 : decode cX2_tell 5 = .ok (.iload_n 1, 1) := by decide +kernel
theorem dX2_tell_6 : decode cX2_tell 6 = .ok (.iload_n 2, 1) := by decide +kernel
theorem dX2_tell_7 : decode cX2_tell 7 = .ok (.iastore, 1) := by decide +kernel
theorem dX2_tell_8 : decode cX2_tell 8 = .ok (.iload_n 3, 1) := by decide +kernel
theorem dX2_tell_9 : decode cX2_tell 9 = .ok (.ireturn, 1) := by decide +kernel
theorem dX2_sum_0 : decode cX2_sum 0 = .ok (.iconst 0, 1) := by decide +kernel
theorem dX2_sum_1 : decode cX2_sum 1 = .ok (.istore_n 1, 1) := by decide +kernel
theorem dX2_sum_2 : decode cX2_sum 2 = .ok (.aload_n 0, 1) := by decide +kernel
theorem dX2_sum_3 : decode cX2_sum 3 = .ok (.astore_n 2, 1) := by decide +kernel
theorem dX2_sum_4 : decode cX2_sum 4 = .ok (.aload_n 2, 1) := by decide +kernel
theorem dX2_sum_5 : decode cX2_sum 5 = .ok (.arraylength, 1) := by decide +kernel
theorem dX2_sum_6 : decode cX2_sum 6 = .ok (.istore_n 3, 1) := by decide +kernel
theorem dX2_sum_7 : decode cX2_sum 7 = .ok (.iconst 0, 1) := by decide +kernel
theorem dX2_sum_8 : decode cX2_sum 8 = .ok (.istore 4, 2) := by decide +kernel
theorem dX2_sum_10 : decode cX2_sum 10 = .ok (.iload 4, 2) := by decide +kernel
theorem dX2_sum_12 : decode cX2_sum 12 = .ok (.iload_n 3, 1) := by decide +kernel
theorem dX2_sum_13 : decode cX2_sum 13 = .ok (.if_icmp .ge 20, 3) := by decide +kernel
theorem dX2_sum_16 : decode cX2_sum 16 = .ok (.aload_n 2, 1) := by decide +kernel
theorem dX2_sum_17 : decode cX2_sum 17 = .ok (.iload 4, 2) := by decide +kernel
theorem dX2_sum_19 : decode cX2_sum 19 = .ok (.iaload, 1) := by decide +kernel
theorem dX2_sum_20 : decode cX2_sum 20 = .ok (.istore 5, 2) := by decide +kernel
theorem dX2_sum_22 : decode cX2_sum 22 = .ok (.iload_n 1, 1) := by decide +kernel
theorem dX2_sum_23 : decode cX2_sum 23 = .ok (.iload 5, 2) := by decide +kernel
theorem dX2_sum_25 : decode cX2_sum 25 = .ok (.iadd, 1) := by decide +kernel
theorem dX2_sum_26 : decode cX2_sum 26 = .ok (.istore_n 1, 1) := by decide +kernel
theorem dX2_sum_27 : decode cX2_sum 27 = .ok (.iinc 4 1, 3) := by decide +kernel
theorem dX2_sum_30 : decode cX2_sum 30 = .ok (.goto (-20), 3) := by decide +kernel
theorem dX2_sum_33 : decode cX2_sum 33 = .ok (.iload_n 1, 1) := by decide +kernel
theorem dX2_sum_34 : decode cX2_sum 34 = .ok (.ireturn, 1) := by decide +kernel
set_option maxRecDepth 20000 in
theorem ggX2_unitCost_X2_wayOf : GoodIn wsX2_unitCost wsX2_wayOf := goodIn_r _ [8] (by decide +kernel) (by decide +kernel)
set_option maxRecDepth 20000 in
theorem gX2_unitCost_X2_wayOf : GoodIn wsX2_unitCost (va_wsS RX2 100 yX2_wayOf wsX2_wayOf) := goodIn_app (goodIn_of _ (by decide +kernel)) ggX2_unitCost_X2_wayOf
set_option maxRecDepth 20000 in
theorem ggX2_unitCost_X2_measured : GoodIn wsX2_unitCost wsX2_measured := goodIn_r _ [12, 13, 14, 15, 16, 17, 18, 19, 20, 21, 22, 23, 24, 25, 26, 27, 28, 29, 30, 31, 32, 33, 34, 35, 36] (by decide +kernel) (by decide +kernel)
set_option maxRecDepth 20000 in
theorem gX2_unitCost_X2_measured : GoodIn wsX2_unitCost (wsV RX2 231 RX2 yX2_measured wsX2_measured) := goodIn_app (goodIn_of _ (by decide +kernel)) ggX2_unitCost_X2_measured
theorem dX2_unitCost_0 : decode cX2_unitCost 0 = .ok (.aload_n 0, 1) := by decide +kernel
theorem dX2_unitCost_1 : decode cX2_unitCost 1 = .ok (.getfield 19, 3) := by decide +kernel
theorem dX2_unitCost_4 : decode cX2_unitCost 4 = .ok (.iload_n 1, 1) := by decide +kernel
theorem dX2_unitCost_5 : decode cX2_unitCost 5 = .ok (.iload_n 2, 1) := by decide +kernel
theorem dX2_unitCost_6 : decode cX2_unitCost 6 = .ok (.invokestatic 100, 3) := by decide +kernel
theorem dX2_unitCost_9 : decode cX2_unitCost 9 = .ok (.iaload, 1) := by decide +kernel
theorem dX2_unitCost_10 : decode cX2_unitCost 10 = .ok (.istore_n 3, 1) := by decide +kernel
theorem dX2_unitCost_11 : decode cX2_unitCost 11 = .ok (.iload_n 3, 1) := by decide +kernel
theorem dX2_unitCost_12 : decode cX2_unitCost 12 = .ok (.iconst (-1), 1) := by decide +kernel
theorem dX2_unitCost_13 : decode cX2_unitCost 13 = .ok (.if_icmp .eq 7, 3) := by decide +kernel
theorem dX2_unitCost_16 : decode cX2_unitCost 16 = .ok (.iload_n 3, 1) := by decide +kernel
theorem dX2_unitCost_17 : decode cX2_unitCost 17 = .ok (.goto 25, 3) := by decide +kernel
theorem dX2_unitCost_20 : decode cX2_unitCost 20 = .ok (.aload_n 0, 1) := by decide +kernel
theorem dX2_unitCost_21 : decode cX2_unitCost 21 = .ok (.aload_n 0, 1) := by decide +kernel
theorem dX2_unitCost_22 : decode cX2_unitCost 22 = .ok (.getfield 12, 3) := by decide +kernel
theorem dX2_unitCost_25 : decode cX2_unitCost 25 = .ok (.getfield 90, 3) := by decide +kernel
theorem dX2_unitCost_28 : decode cX2_unitCost 28 = .ok (.iload_n 1, 1) := by decide +kernel
theorem dX2_unitCost_29 : decode cX2_unitCost 29 = .ok (.iaload, 1) := by decide +kernel
theorem dX2_unitCost_30 : decode cX2_unitCost 30 = .ok (.aload_n 0, 1) := by decide +kernel
theorem dX2_unitCost_31 : decode cX2_unitCost 31 = .ok (.getfield 16, 3) := by decide +kernel
theorem dX2_unitCost_34 : decode cX2_unitCost 34 = .ok (.getfield 90, 3) := by decide +kernel
theorem dX2_unitCost_37 : decode cX2_unitCost 37 = .ok (.iload_n 2, 1) := by decide +kernel
theorem dX2_unitCost_38 : decode cX2_unitCost 38 = .ok (.iaload, 1) := by decide +kernel
theorem dX2_unitCost_39 : decode cX2_unitCost 39 = .ok (.invokevirtual 231, 3) := by decide +kernel
theorem dX2_unitCost_42 : decode cX2_unitCost 42 = .ok (.ireturn, 1) := by decide +kernel
theorem dX2_measured_0 : decode cX2_measured 0 = .ok (.iload_n 1, 1) := by decide +kernel
theorem dX2_measured_1 : decode cX2_measured 1 = .ok (.iload_n 2, 1) := by decide +kernel
theorem dX2_measured_2 : decode cX2_measured 2 = .ok (.isub, 1) := by decide +kernel
theorem dX2_measured_3 : decode cX2_measured 3 = .ok (.invokestatic 234, 3) := by decide +kernel
theorem dX2_measured_6 : decode cX2_measured 6 = .ok (.istore_n 3, 1) := by decide +kernel
theorem dX2_measured_7 : decode cX2_measured 7 = .ok (.aload_n 0, 1) := by decide +kernel
theorem dX2_measured_8 : decode cX2_measured 8 = .ok (.getfield 48, 3) := by decide +kernel
theorem dX2_measured_11 : decode cX2_measured 11 = .ok (.iconst 1, 1) := by decide +kernel
theorem dX2_measured_12 : decode cX2_measured 12 = .ok (.if_icmp .ne 7, 3) := by decide +kernel
theorem dX2_measured_15 : decode cX2_measured 15 = .ok (.iload_n 3, 1) := by decide +kernel
theorem dX2_measured_16 : decode cX2_measured 16 = .ok (.iload_n 3, 1) := by decide +kernel
theorem dX2_measured_17 : decode cX2_measured 17 = .ok (.imul, 1) := by decide +kernel
theorem dX2_measured_18 : decode cX2_measured 18 = .ok (.ireturn, 1) := by decide +kernel
theorem dX2_measured_19 : decode cX2_measured 19 = .ok (.aload_n 0, 1) := by decide +kernel
theorem dX2_measured_20 : decode cX2_measured 20 = .ok (.getfield 48, 3) := by decide +kernel
theorem dX2_measured_23 : decode cX2_measured 23 = .ok (.ifCond .eq 11, 3) := by decide +kernel
theorem dX2_measured_26 : decode cX2_measured 26 = .ok (.aload_n 0, 1) := by decide +kernel
theorem dX2_measured_27 : decode cX2_measured 27 = .ok (.getfield 52, 3) := by decide +kernel
theorem dX2_measured_30 : decode cX2_measured 30 = .ok (.iconst 1, 1) := by decide +kernel
theorem dX2_measured_31 : decode cX2_measured 31 = .ok (.if_icmp .ge 5, 3) := by decide +kernel
theorem dX2_measured_34 : decode cX2_measured 34 = .ok (.iload_n 3, 1) := by decide +kernel
theorem dX2_measured_35 : decode cX2_measured 35 = .ok (.ireturn, 1) := by decide +kernel
theorem dX2_measured_36 : decode cX2_measured 36 = .ok (.iload_n 3, 1) := by decide +kernel
theorem dX2_measured_37 : decode cX2_measured 37 = .ok (.aload_n 0, 1) := by decide +kernel
theorem dX2_measured_38 : decode cX2_measured 38 = .ok (.getfield 52, 3) := by decide +kernel
theorem dX2_measured_41 : decode cX2_measured 41 = .ok (.irem, 1) := by decide +kernel
theorem dX2_measured_42 : decode cX2_measured 42 = .ok (.istore 4, 2) := by decide +kernel
theorem dX2_measured_44 : decode cX2_measured 44 = .ok (.iload 4, 2) := by decide +kernel
theorem dX2_measured_46 : decode cX2_measured 46 = .ok (.aload_n 0, 1) := by decide +kernel
theorem dX2_measured_47 : decode cX2_measured 47 = .ok (.getfield 52, 3) := by decide +kernel
theorem dX2_measured_50 : decode cX2_measured 50 = .ok (.iload 4, 2) := by decide +kernel
theorem dX2_measured_52 : decode cX2_measured 52 = .ok (.isub, 1) := by decide +kernel
theorem dX2_measured_53 : decode cX2_measured 53 = .ok (.invokestatic 136, 3) := by decide +kernel
theorem dX2_measured_56 : decode cX2_measured 56 = .ok (.ireturn, 1) := by decide +kernel
set_option maxRecDepth 20000 in
theorem ggX2_costOfAllTo_X2_measured : GoodIn wsX2_costOfAllTo wsX2_measured := goodIn_r _ [9, 10, 11, 12, 13, 14, 15, 16, 17, 18, 19, 20, 21, 22, 23, 24, 25, 26, 27, 28, 29, 30, 31, 32, 33] (by decide +kernel) (by decide +kernel)
set_option maxRecDepth 20000 in
theorem gX2_costOfAllTo_X2_measured : GoodIn wsX2_costOfAllTo (wsV RX2 231 RX2 yX2_measured wsX2_measured) := goodIn_app (goodIn_of _ (by decide +kernel)) ggX2_costOfAllTo_X2_measured
theorem dX2_costOfAllTo_0 : decode cX2_costOfAllTo 0 = .ok (.iconst 0, 1) := by decide +kernel
theorem dX2_costOfAllTo_1 : decode cX2_costOfAllTo 1 = .ok (.istore_n 2, 1) := by decide +kernel
theorem dX2_costOfAllTo_2 : decode cX2_costOfAllTo 2 = .ok (.iconst 0, 1) := by decide +kernel
theorem dX2_costOfAllTo_3 : decode cX2_costOfAllTo 3 = .ok (.istore_n 3, 1) := by decide +kernel
theorem dX2_costOfAllTo_4 : decode cX2_costOfAllTo 4 = .ok (.iload_n 3, 1) := by decide +kernel
theorem dX2_costOfAllTo_5 : decode cX2_costOfAllTo 5 = .ok (.aload_n 0, 1) := by decide +kernel
theorem dX2_costOfAllTo_6 : decode cX2_costOfAllTo 6 = .ok (.getfield 12, 3) := by decide +kernel
theorem dX2_costOfAllTo_9 : decode cX2_costOfAllTo 9 = .ok (.getfield 167, 3) := by decide +kernel
theorem dX2_costOfAllTo_12 : decode cX2_costOfAllTo 12 = .ok (.if_icmp .ge 36, 3) := by decide +kernel
theorem dX2_costOfAllTo_15 : decode cX2_costOfAllTo 15 = .ok (.iload_n 2, 1) := by decide +kernel
theorem dX2_costOfAllTo_16 : decode cX2_costOfAllTo 16 = .ok (.aload_n 0, 1) := by decide +kernel
theorem dX2_costOfAllTo_17 : decode cX2_costOfAllTo 17 = .ok (.getfield 12, 3) := by decide +kernel
theorem dX2_costOfAllTo_20 : decode cX2_costOfAllTo 20 = .ok (.getfield 87, 3) := by decide +kernel
theorem dX2_costOfAllTo_23 : decode cX2_costOfAllTo 23 = .ok (.iload_n 3, 1) := by decide +kernel
theorem dX2_costOfAllTo_24 : decode cX2_costOfAllTo 24 = .ok (.iaload, 1) := by decide +kernel
theorem dX2_costOfAllTo_25 : decode cX2_costOfAllTo 25 = .ok (.aload_n 0, 1) := by decide +kernel
theorem dX2_costOfAllTo_26 : decode cX2_costOfAllTo 26 = .ok (.aload_n 0, 1) := by decide +kernel
theorem dX2_costOfAllTo_27 : decode cX2_costOfAllTo 27 = .ok (.getfield 12, 3) := by decide +kernel
theorem dX2_costOfAllTo_30 : decode cX2_costOfAllTo 30 = .ok (.getfield 90, 3) := by decide +kernel
theorem dX2_costOfAllTo_33 : decode cX2_costOfAllTo 33 = .ok (.iload_n 3, 1) := by decide +kernel
theorem dX2_costOfAllTo_34 : decode cX2_costOfAllTo 34 = .ok (.iaload, 1) := by decide +kernel
theorem dX2_costOfAllTo_35 : decode cX2_costOfAllTo 35 = .ok (.iload_n 1, 1) := by decide +kernel
theorem dX2_costOfAllTo_36 : decode cX2_costOfAllTo 36 = .ok (.invokevirtual 231, 3) := by decide +kernel
theorem dX2_costOfAllTo_39 : decode cX2_costOfAllTo 39 = .ok (.imul, 1) := by decide +kernel
theorem dX2_costOfAllTo_40 : decode cX2_costOfAllTo 40 = .ok (.iadd, 1) := by decide +kernel
theorem dX2_costOfAllTo_41 : decode cX2_costOfAllTo 41 = .ok (.istore_n 2, 1) := by decide +kernel
theorem dX2_costOfAllTo_42 : decode cX2_costOfAllTo 42 = .ok (.iinc 3 1, 3) := by decide +kernel
theorem dX2_costOfAllTo_45 : decode cX2_costOfAllTo 45 = .ok (.goto (-41), 3) := by decide +kernel
theorem dX2_costOfAllTo_48 : decode cX2_costOfAllTo 48 = .ok (.iload_n 2, 1) := by decide +kernel
theorem dX2_costOfAllTo_49 : decode cX2_costOfAllTo 49 = .ok (.ireturn, 1) := by decide +kernel
set_option maxRecDepth 20000 in
theorem ggX2_planned_X2_layOut : GoodIn wsX2_planned wsX2_layOut := goodIn_r _ [7, 8, 9, 10, 11, 12, 13, 14, 15, 16, 17, 18, 19, 20, 21, 22, 23, 24, 25, 26, 27, 28, 29, 30, 31, 32, 33, 34, 35, 36, 37, 38, 39, 40, 41, 6, 42, 43, 44, 45, 46, 47, 48, 49, 50, 51, 52, 53, 54, 55, 56, 57, 58, 59, 60, 61, 62, 63, 64, 65, 66, 67, 68, 110, 111, 112, 113, 114, 115, 116, 117, 118, 119, 120, 121, 122, 123, 124, 125, 126, 127, 128, 129, 130, 131, 132, 133, 134, 135, 136, 137, 138, 139, 140, 141, 142] (by decide +kernel) (by decide +kernel)
set_option maxRecDepth 20000 in
theorem gX2_planned_X2_layOut : GoodIn wsX2_planned (wsV RX2 129 RX2 yX2_layOut wsX2_layOut) := goodIn_app (goodIn_of _ (by decide +kernel)) ggX2_planned_X2_layOut
set_option maxRecDepth 20000 in
theorem ggX2_planned_X0_improve : GoodIn wsX2_planned wsX0_improve := goodIn_r _ [72, 73, 74, 75, 18, 76, 77, 20, 78, 79, 80, 81, 82, 83, 30, 84, 28, 29, 31, 85, 86, 87, 88, 25, 66, 23, 68, 89, 90, 91, 92, 22, 93, 94, 95, 96, 26, 27, 21, 97, 98, 99, 100, 101, 60, 55, 61, 41, 6, 42, 102, 103, 104, 105, 106, 107, 108, 109, 24, 67, 128, 129, 130, 131, 132, 133, 134, 135, 136, 137, 138, 139, 140, 141, 142] (by decide +kernel) (by decide +kernel)
set_option maxRecDepth 20000 in
theorem gX2_planned_X0_improve : GoodIn wsX2_planned (wsV RX2 153 RX0 yX0_improve wsX0_improve) := goodIn_app (goodIn_of _ (by decide +kernel)) ggX2_planned_X0_improve
theorem dX2_planned_0 : decode cX2_planned 0 = .ok (.aload_n 0, 1) := by decide +kernel
theorem dX2_planned_1 : decode cX2_planned 1 = .ok (.getfield 61, 3) := by decide +kernel
theorem dX2_planned_4 : decode cX2_planned 4 = .ok (.ifCond .ne 23, 3) := by decide +kernel
theorem dX2_planned_7 : decode cX2_planned 7 = .ok (.aload_n 0, 1) := by decide +kernel
theorem dX2_planned_8 : decode cX2_planned 8 = .ok (.aload_n 0, 1) := by decide +kernel
theorem dX2_planned_9 : decode cX2_planned 9 = .ok (.getfield 41, 3) := by decide +kernel
theorem dX2_planned_12 : decode cX2_planned 12 = .ok (.invokevirtual 129, 3) := by decide +kernel
theorem dX2_planned_15 : decode cX2_planned 15 = .ok (.aload_n 0, 1) := by decide +kernel
theorem dX2_planned_16 : decode cX2_planned 16 = .ok (.getfield 41, 3) := by decide +kernel
theorem dX2_planned_19 : decode cX2_planned 19 = .ok (.invokevirtual 153, 3) := by decide +kernel
theorem dX2_planned_22 : decode cX2_planned 22 = .ok (.aload_n 0, 1) := by decide +kernel
theorem dX2_planned_23 : decode cX2_planned 23 = .ok (.iconst 1, 1) := by decide +kernel
theorem dX2_planned_24 : decode cX2_planned 24 = .ok (.putfield 61, 3) := by decide +kernel
theorem dX2_planned_27 : decode cX2_planned 27 = .ok (.aload_n 0, 1) := by decide +kernel
theorem dX2_planned_28 : decode cX2_planned 28 = .ok (.getfield 41, 3) := by decide +kernel
theorem dX2_planned_31 : decode cX2_planned 31 = .ok (.areturn, 1) := by decide +kernel
set_option maxRecDepth 20000 in
theorem ggX2_layOut_X0_begin : GoodIn wsX2_layOut wsX0_begin := goodIn_r _ [12, 13, 14, 15, 16, 17, 18, 19, 20, 21, 22, 23, 24, 81, 82, 83, 84, 85, 86, 87, 88, 89, 90, 91, 92, 93, 94, 95] (by decide +kernel) (by decide +kernel)
set_option maxRecDepth 20000 in
theorem gX2_layOut_X0_begin : GoodIn wsX2_layOut (wsV RX2 237 RX0 yX0_begin wsX0_begin) := goodIn_app (goodIn_of _ (by decide +kernel)) ggX2_layOut_X0_begin
set_option maxRecDepth 20000 in
theorem ggX2_layOut_X0_letStay : GoodIn wsX2_layOut wsX0_letStay := goodIn_r _ [28, 13, 17, 19, 81, 82, 83, 84, 85, 86, 87, 88, 89, 90, 91, 92, 93, 94, 95] (by decide +kernel) (by decide +kernel)
set_option maxRecDepth 20000 in
theorem gX2_layOut_X0_letStay : GoodIn wsX2_layOut (wsV RX2 240 RX0 yX0_letStay wsX0_letStay) := goodIn_app (goodIn_of _ (by decide +kernel)) ggX2_layOut_X0_letStay
set_option maxRecDepth 20000 in
theorem ggX2_layOut_X0_letLack : GoodIn wsX2_layOut wsX0_letLack := goodIn_r _ [32, 14, 17, 20, 81, 82, 83, 84, 85, 86, 87, 88, 89, 90, 91, 92, 93, 94, 95] (by decide +kernel) (by decide +kernel)
set_option maxRecDepth 20000 in
theorem gX2_layOut_X0_letLack : GoodIn wsX2_layOut (wsV RX2 243 RX0 yX0_letLack wsX0_letLack) := goodIn_app (goodIn_of _ (by decide +kernel)) ggX2_layOut_X0_letLack
set_option maxRecDepth 20000 in
theorem ggX2_layOut_X2_wayOf : GoodIn wsX2_layOut wsX2_wayOf := goodIn_r _ [36] (by decide +kernel) (by decide +kernel)
set_option maxRecDepth 20000 in
theorem gX2_layOut_X2_wayOf : GoodIn wsX2_layOut (va_wsS RX2 100 yX2_wayOf wsX2_wayOf) := goodIn_app (goodIn_of _ (by decide +kernel)) ggX2_layOut_X2_wayOf
set_option maxRecDepth 20000 in
theorem ggX2_layOut_X2_unitCost : GoodIn wsX2_layOut wsX2_unitCost := goodIn_r _ [40, 41, 3, 42, 6, 33, 34, 35, 36, 43, 44, 45, 46, 47, 48, 49, 50, 51, 52, 53, 54, 55, 63, 64, 65, 66, 67, 68, 69, 70, 71, 72, 73, 74, 75, 76, 77, 78, 79, 80] (by decide +kernel) (by decide +kernel)
set_option maxRecDepth 20000 in
theorem gX2_layOut_X2_unitCost : GoodIn wsX2_layOut (wsV RX2 108 RX2 yX2_unitCost wsX2_unitCost) := goodIn_app (goodIn_of _ (by decide +kernel)) ggX2_layOut_X2_unitCost
set_option maxRecDepth 20000 in
theorem ggX2_layOut_X0_open : GoodIn wsX2_layOut wsX0_open := goodIn_r _ [59, 18, 60, 16, 61, 62, 81, 82, 83, 84, 85, 86, 87, 88, 89, 90, 91, 92, 93, 94, 95] (by decide +kernel) (by decide +kernel)
set_option maxRecDepth 20000 in
theorem gX2_layOut_X0_open : GoodIn wsX2_layOut (wsV RX2 246 RX0 yX0_open wsX0_open) := goodIn_app (goodIn_of _ (by decide +kernel)) ggX2_layOut_X0_open
theorem dX2_layOut_0 : decode cX2_layOut 0 = .ok (.aload_n 1, 1) := by decide +kernel
theorem dX2_layOut_1 : decode cX2_layOut 1 = .ok (.aload_n 0, 1) := by decide +kernel
theorem dX2_layOut_2 : decode cX2_layOut 2 = .ok (.getfield 55, 3) := by decide +kernel
theorem dX2_layOut_5 : decode cX2_layOut 5 = .ok (.aload_n 0, 1) := by decide +kernel
theorem dX2_layOut_6 : decode cX2_layOut 6 = .ok (.getfield 58, 3) := by decide +kernel
theorem dX2_layOut_9 : decode cX2_layOut 9 = .ok (.invokevirtual 237, 3) := by decide +kernel
theorem dX2_layOut_12 : decode cX2_layOut 12 = .ok (.iconst 0, 1) := by decide +kernel
theorem dX2_layOut_13 : decode cX2_layOut 13 = .ok (.istore_n 2, 1) := by decide +kernel
theorem dX2_layOut_14 : decode cX2_layOut 14 = .ok (.iload_n 2, 1) := by decide +kernel
theorem dX2_layOut_15 : decode cX2_layOut 15 = .ok (.aload_n 0, 1) := by decide +kernel
theorem dX2_layOut_16 : decode cX2_layOut 16 = .ok (.getfield 12, 3) := by decide +kernel
theorem dX2_layOut_19 : decode cX2_layOut 19 = .ok (.getfield 167, 3) := by decide +kernel
theorem dX2_layOut_22 : decode cX2_layOut 22 = .ok (.if_icmp .ge 23, 3) := by decide +kernel
theorem dX2_layOut_25 : decode cX2_layOut 25 = .ok (.aload_n 1, 1) := by decide +kernel
theorem dX2_layOut_26 : decode cX2_layOut 26 = .ok (.iload_n 2, 1) := by decide +kernel
theorem dX2_layOut_27 : decode cX2_layOut 27 = .ok (.aload_n 0, 1) := by decide +kernel
theorem dX2_layOut_28 : decode cX2_layOut 28 = .ok (.getfield 12, 3) := by decide +kernel
theorem dX2_layOut_31 : decode cX2_layOut 31 = .ok (.getfield 87, 3) := by decide +kernel
theorem dX2_layOut_34 : decode cX2_layOut 34 = .ok (.iload_n 2, 1) := by decide +kernel
theorem dX2_layOut_35 : decode cX2_layOut 35 = .ok (.iaload, 1) := by decide +kernel
theorem dX2_layOut_36 : decode cX2_layOut 36 = .ok (.invokevirtual 240, 3) := by decide +kernel
theorem dX2_layOut_39 : decode cX2_layOut 39 = .ok (.iinc 2 1, 3) := by decide +kernel
theorem dX2_layOut_42 : decode cX2_layOut 42 = .ok (.goto (-28), 3) := by decide +kernel
theorem dX2_layOut_45 : decode cX2_layOut 45 = .ok (.iconst 0, 1) := by decide +kernel
theorem dX2_layOut_46 : decode cX2_layOut 46 = .ok (.istore_n 2, 1) := by decide +kernel
theorem dX2_layOut_47 : decode cX2_layOut 47 = .ok (.iload_n 2, 1) := by decide +kernel
theorem dX2_layOut_48 : decode cX2_layOut 48 = .ok (.aload_n 0, 1) := by decide +kernel
theorem dX2_layOut_49 : decode cX2_layOut 49 = .ok (.getfield 16, 3) := by decide +kernel
theorem dX2_layOut_52 : decode cX2_layOut 52 = .ok (.getfield 167, 3) := by decide +kernel
theorem dX2_layOut_55 : decode cX2_layOut 55 = .ok (.if_icmp .ge 23, 3) := by decide +kernel
theorem dX2_layOut_58 : decode cX2_layOut 58 = .ok (.aload_n 1, 1) := by decide +kernel
theorem dX2_layOut_59 : decode cX2_layOut 59 = .ok (.iload_n 2, 1) := by decide +kernel
theorem dX2_layOut_60 : decode cX2_layOut 60 = .ok (.aload_n 0, 1) := by decide +kernel
theorem dX2_layOut_61 : decode cX2_layOut 61 = .ok (.getfield 16, 3) := by decide +kernel
theorem dX2_layOut_64 : decode cX2_layOut 64 = .ok (.getfield 87, 3) := by decide +kernel
theorem dX2_layOut_67 : decode cX2_layOut 67 = .ok (.iload_n 2, 1) := by decide +kernel
theorem dX2_layOut_68 : decode cX2_layOut 68 = .ok (.iaload, 1) := by decide +kernel
theorem dX2_layOut_69 : decode cX2_layOut 69 = .ok (.invokevirtual 243, 3) := by decide +kernel
theorem dX2_layOut_72 : decode cX2_layOut 72 = .ok (.iinc 2 1, 3) := by decide +kernel
theorem dX2_layOut_75 : decode cX2_layOut 75 = .ok (.goto (-28), 3) := by decide +kernel
theorem dX2_layOut_78 : decode cX2_layOut 78 = .ok (.iconst 0, 1) := by decide +kernel
theorem dX2_layOut_79 : decode cX2_layOut 79 = .ok (.istore_n 2, 1) := by decide +kernel
theorem dX2_layOut_80 : decode cX2_layOut 80 = .ok (.iload_n 2, 1) := by decide +kernel
theorem dX2_layOut_81 : decode cX2_layOut 81 = .ok (.aload_n 0, 1) := by decide +kernel
theorem dX2_layOut_82 : decode cX2_layOut 82 = .ok (.getfield 12, 3) := by decide +kernel
theorem dX2_layOut_85 : decode cX2_layOut 85 = .ok (.getfield 167, 3) := by decide +kernel
theorem dX2_layOut_88 : decode cX2_layOut 88 = .ok (.if_icmp .ge 53, 3) := by decide +kernel
theorem dX2_layOut_91 : decode cX2_layOut 91 = .ok (.iconst 0, 1) := by decide +kernel
theorem dX2_layOut_92 : decode cX2_layOut 92 = .ok (.istore_n 3, 1) := by decide +kernel
theorem dX2_layOut_93 : decode cX2_layOut 93 = .ok (.iload_n 3, 1) := by decide +kernel
theorem dX2_layOut_94 : decode cX2_layOut 94 = .ok (.aload_n 0, 1) := by decide +kernel
theorem dX2_layOut_95 : decode cX2_layOut 95 = .ok (.getfield 16, 3) := by decide +kernel
theorem dX2_layOut_98 : decode cX2_layOut 98 = .ok (.getfield 167, 3) := by decide +kernel
theorem dX2_layOut_101 : decode cX2_layOut 101 = .ok (.if_icmp .ge 34, 3) := by decide +kernel
theorem dX2_layOut_104 : decode cX2_layOut 104 = .ok (.aload_n 1, 1) := by decide +kernel
theorem dX2_layOut_105 : decode cX2_layOut 105 = .ok (.iload_n 2, 1) := by decide +kernel
theorem dX2_layOut_106 : decode cX2_layOut 106 = .ok (.iload_n 3, 1) := by decide +kernel
theorem dX2_layOut_107 : decode cX2_layOut 107 = .ok (.invokestatic 100, 3) := by decide +kernel
theorem dX2_layOut_110 : decode cX2_layOut 110 = .ok (.aload_n 0, 1) := by decide +kernel
theorem dX2_layOut_111 : decode cX2_layOut 111 = .ok (.iload_n 2, 1) := by decide +kernel
theorem dX2_layOut_112 : decode cX2_layOut 112 = .ok (.iload_n 3, 1) := by decide +kernel
theorem dX2_layOut_113 : decode cX2_layOut 113 = .ok (.invokevirtual 108, 3) := by decide +kernel
theorem dX2_layOut_116 : decode cX2_layOut 116 = .ok (.aload_n 0, 1) := by decide +kernel
theorem dX2_layOut_117 : decode cX2_layOut 117 = .ok (.getfield 23, 3) := by decide +kernel
theorem dX2_layOut_120 : decode cX2_layOut 120 = .ok (.iload_n 2, 1) := by decide +kernel
theorem dX2_layOut_121 : decode cX2_layOut 121 = .ok (.iload_n 3, 1) := by decide +kernel
theorem dX2_layOut_122 : decode cX2_layOut 122 = .ok (.invokestatic 100, 3) := by decide +kernel
theorem dX2_layOut_125 : decode cX2_layOut 125 = .ok (.iaload, 1) := by decide +kernel
theorem dX2_layOut_126 : decode cX2_layOut 126 = .ok (.invokevirtual 246, 3) := by decide +kernel
theorem dX2_layOut_129 : decode cX2_layOut 129 = .ok (.iinc 3 1, 3) := by decide +kernel
theorem dX2_layOut_132 : decode cX2_layOut 132 = .ok (.goto (-39), 3) := by decide +kernel
theorem dX2_layOut_135 : decode cX2_layOut 135 = .ok (.iinc 2 1, 3) := by decide +kernel
theorem dX2_layOut_138 : decode cX2_layOut 138 = .ok (.goto (-58), 3) := by decide +kernel
theorem dX2_layOut_141 : decode cX2_layOut 141 = .ok (.return_, 1) := by decide +kernel
set_option maxRecDepth 20000 in
theorem ggX2_heapPrice_X2_layOut : GoodIn wsX2_heapPrice wsX2_layOut := goodIn_r _ [7, 8, 9, 10, 11, 12, 13, 14, 15, 16, 17, 18, 19, 20, 21, 22, 23, 24, 25, 26, 27, 28, 29, 30, 31, 32, 33, 34, 35, 36, 37, 38, 39, 40, 41, 6, 42, 43, 44, 45, 46, 47, 48, 49, 50, 51, 52, 53, 54, 55, 56, 57, 58, 59, 60, 61, 62, 63, 64, 65, 66, 67, 68, 116, 117, 118, 119, 120, 121, 122, 123, 124, 125, 126, 127, 128, 129, 130, 146, 147, 148, 131, 132, 133, 134, 135, 136, 137, 138, 139, 140, 141, 142, 143, 144, 145] (by decide +kernel) (by decide +kernel)
set_option maxRecDepth 20000 in
theorem gX2_heapPrice_X2_layOut : GoodIn wsX2_heapPrice (wsV RX2 129 RX2 yX2_layOut wsX2_layOut) := goodIn_app (goodIn_of _ (by decide +kernel)) ggX2_heapPrice_X2_layOut
set_option maxRecDepth 20000 in
theorem ggX2_heapPrice_X0_letStay : GoodIn wsX2_heapPrice wsX0_letStay := goodIn_r _ [35, 20, 24, 26, 131, 132, 133, 134, 135, 136, 137, 138, 139, 140, 141, 142, 143, 144, 145] (by decide +kernel) (by decide +kernel)
set_option maxRecDepth 20000 in
theorem gX2_heapPrice_X0_letStay : GoodIn wsX2_heapPrice (wsV RX2 240 RX0 yX0_letStay wsX0_letStay) := goodIn_app (goodIn_of _ (by decide +kernel)) ggX2_heapPrice_X0_letStay
set_option maxRecDepth 20000 in
theorem ggX2_heapPrice_X0_improve : GoodIn wsX2_heapPrice wsX0_improve := goodIn_r _ [72, 73, 74, 75, 18, 76, 77, 20, 78, 79, 80, 81, 82, 83, 30, 84, 28, 29, 31, 85, 86, 87, 88, 25, 66, 23, 68, 89, 90, 91, 92, 22, 93, 94, 95, 96, 26, 27, 21, 97, 98, 99, 100, 101, 60, 55, 61, 41, 6, 42, 102, 103, 104, 105, 106, 107, 108, 109, 24, 67, 131, 132, 133, 134, 135, 136, 137, 138, 139, 140, 141, 142, 143, 144, 145] (by decide +kernel) (by decide +kernel)
set_option maxRecDepth 20000 in
theorem gX2_heapPrice_X0_improve : GoodIn wsX2_heapPrice (wsV RX2 153 RX0 yX0_improve wsX0_improve) := goodIn_app (goodIn_of _ (by decide +kernel)) ggX2_heapPrice_X0_improve
set_option maxRecDepth 20000 in
theorem ggX2_heapPrice_X2_planned : GoodIn wsX2_heapPrice wsX2_planned := goodIn_r _ [113, 114, 115, 3, 4, 5, 6, 7, 8, 9, 10, 11, 12, 13, 14, 15, 16, 17, 18, 19, 20, 21, 22, 23, 24, 25, 26, 27, 28, 29, 30, 31, 32, 33, 34, 35, 36, 37, 38, 39, 40, 41, 42, 43, 44, 45, 46, 47, 48, 49, 50, 51, 52, 53, 54, 55, 56, 57, 58, 59, 60, 61, 62, 63, 64, 65, 66, 67, 68, 69, 70, 71, 72, 73, 74, 75, 76, 77, 78, 79, 80, 81, 82, 83, 84, 85, 86, 87, 88, 89, 90, 91, 92, 93, 94, 95, 96, 97, 98, 99, 100, 101, 102, 103, 104, 105, 106, 107, 108, 109, 116, 117, 118, 119, 120, 121, 122, 123, 124, 125, 126, 127, 128, 129, 130, 146, 147, 148, 131, 132, 133, 134, 135, 136, 137, 138, 139, 140, 141, 142, 143, 144, 145] (by decide +kernel) (by decide +kernel)
set_option maxRecDepth 20000 in
theorem gX2_heapPrice_X2_planned : GoodIn wsX2_heapPrice (wsV RX2 111 RX2 yX2_planned wsX2_planned) := goodIn_app (goodIn_of _ (by decide +kernel)) ggX2_heapPrice_X2_planned
theorem dX2_heapPrice_0 : decode cX2_heapPrice 0 = .ok (.aload_n 0, 1) := by decide +kernel
theorem dX2_heapPrice_1 : decode cX2_heapPrice 1 = .ok (.aload_n 0, 1) := by decide +kernel
theorem dX2_heapPrice_2 : decode cX2_heapPrice 2 = .ok (.getfield 45, 3) := by decide +kernel
theorem dX2_heapPrice_5 : decode cX2_heapPrice 5 = .ok (.invokevirtual 129, 3) := by decide +kernel
theorem dX2_heapPrice_8 : decode cX2_heapPrice 8 = .ok (.aload_n 0, 1) := by decide +kernel
theorem dX2_heapPrice_9 : decode cX2_heapPrice 9 = .ok (.getfield 45, 3) := by decide +kernel
theorem dX2_heapPrice_12 : decode cX2_heapPrice 12 = .ok (.iload_n 1, 1) := by decide +kernel
theorem dX2_heapPrice_13 : decode cX2_heapPrice 13 = .ok (.iconst 1, 1) := by decide +kernel
theorem dX2_heapPrice_14 : decode cX2_heapPrice 14 = .ok (.invokevirtual 240, 3) := by decide +kernel
theorem dX2_heapPrice_17 : decode cX2_heapPrice 17 = .ok (.aload_n 0, 1) := by decide +kernel
theorem dX2_heapPrice_18 : decode cX2_heapPrice 18 = .ok (.getfield 45, 3) := by decide +kernel
theorem dX2_heapPrice_21 : decode cX2_heapPrice 21 = .ok (.invokevirtual 153, 3) := by decide +kernel
theorem dX2_heapPrice_24 : decode cX2_heapPrice 24 = .ok (.aload_n 0, 1) := by decide +kernel
theorem dX2_heapPrice_25 : decode cX2_heapPrice 25 = .ok (.getfield 45, 3) := by decide +kernel
theorem dX2_heapPrice_28 : decode cX2_heapPrice 28 = .ok (.getfield 115, 3) := by decide +kernel
theorem dX2_heapPrice_31 : decode cX2_heapPrice 31 = .ok (.aload_n 0, 1) := by decide +kernel
theorem dX2_heapPrice_32 : decode cX2_heapPrice 32 = .ok (.invokevirtual 111, 3) := by decide +kernel
theorem dX2_heapPrice_35 : decode cX2_heapPrice 35 = .ok (.getfield 115, 3) := by decide +kernel
theorem dX2_heapPrice_38 : decode cX2_heapPrice 38 = .ok (.isub, 1) := by decide +kernel
theorem dX2_heapPrice_39 : decode cX2_heapPrice 39 = .ok (.ireturn, 1) := by decide +kernel
set_option maxRecDepth 20000 in
theorem ggX2_holePrice_X2_layOut : GoodIn wsX2_holePrice wsX2_layOut := goodIn_r _ [7, 8, 9, 10, 11, 12, 13, 14, 15, 16, 17, 18, 19, 20, 21, 22, 23, 24, 25, 26, 27, 28, 29, 30, 31, 32, 33, 34, 35, 36, 37, 38, 39, 40, 41, 6, 42, 43, 44, 45, 46, 47, 48, 49, 50, 51, 52, 53, 54, 55, 56, 57, 58, 59, 60, 61, 62, 63, 64, 65, 66, 67, 68, 116, 117, 118, 119, 120, 121, 122, 123, 124, 125, 126, 127, 128, 129, 130, 146, 147, 148, 131, 132, 133, 134, 135, 136, 137, 138, 139, 140, 141, 142, 143, 144, 145] (by decide +kernel) (by decide +kernel)
set_option maxRecDepth 20000 in
theorem gX2_holePrice_X2_layOut : GoodIn wsX2_holePrice (wsV RX2 129 RX2 yX2_layOut wsX2_layOut) := goodIn_app (goodIn_of _ (by decide +kernel)) ggX2_holePrice_X2_layOut
set_option maxRecDepth 20000 in
theorem ggX2_holePrice_X0_letLack : GoodIn wsX2_holePrice wsX0_letLack := goodIn_r _ [39, 21, 24, 27, 131, 132, 133, 134, 135, 136, 137, 138, 139, 140, 141, 142, 143, 144, 145] (by decide +kernel) (by decide +kernel)
set_option maxRecDepth 20000 in
theorem gX2_holePrice_X0_letLack : GoodIn wsX2_holePrice (wsV RX2 243 RX0 yX0_letLack wsX0_letLack) := goodIn_app (goodIn_of _ (by decide +kernel)) ggX2_holePrice_X0_letLack
set_option maxRecDepth 20000 in
theorem ggX2_holePrice_X0_improve : GoodIn wsX2_holePrice wsX0_improve := goodIn_r _ [72, 73, 74, 75, 18, 76, 77, 20, 78, 79, 80, 81, 82, 83, 30, 84, 28, 29, 31, 85, 86, 87, 88, 25, 66, 23, 68, 89, 90, 91, 92, 22, 93, 94, 95, 96, 26, 27, 21, 97, 98, 99, 100, 101, 60, 55, 61, 41, 6, 42, 102, 103, 104, 105, 106, 107, 108, 109, 24, 67, 131, 132, 133, 134, 135, 136, 137, 138, 139, 140, 141, 142, 143, 144, 145] (by decide +kernel) (by decide +kernel)
set_option maxRecDepth 20000 in
theorem gX2_holePrice_X0_improve : GoodIn wsX2_holePrice (wsV RX2 153 RX0 yX0_improve wsX0_improve) := goodIn_app (goodIn_of _ (by decide +kernel)) ggX2_holePrice_X0_improve
set_option maxRecDepth 20000 in
theorem ggX2_holePrice_X2_planned : GoodIn wsX2_holePrice wsX2_planned := goodIn_r _ [113, 114, 115, 3, 4, 5, 6, 7, 8, 9, 10, 11, 12, 13, 14, 15, 16, 17, 18, 19, 20, 21, 22, 23, 24, 25, 26, 27, 28, 29, 30, 31, 32, 33, 34, 35, 36, 37, 38, 39, 40, 41, 42, 43, 44, 45, 46, 47, 48, 49, 50, 51, 52, 53, 54, 55, 56, 57, 58, 59, 60, 61, 62, 63, 64, 65, 66, 67, 68, 69, 70, 71, 72, 73, 74, 75, 76, 77, 78, 79, 80, 81, 82, 83, 84, 85, 86, 87, 88, 89, 90, 91, 92, 93, 94, 95, 96, 97, 98, 99, 100, 101, 102, 103, 104, 105, 106, 107, 108, 109, 116, 117, 118, 119, 120, 121, 122, 123, 124, 125, 126, 127, 128, 129, 130, 146, 147, 148, 131, 132, 133, 134, 135, 136, 137, 138, 139, 140, 141, 142, 143, 144, 145] (by decide +kernel) (by decide +kernel)
set_option maxRecDepth 20000 in
theorem gX2_holePrice_X2_planned : GoodIn wsX2_holePrice (wsV RX2 111 RX2 yX2_planned wsX2_planned) := goodIn_app (goodIn_of _ (by decide +kernel)) ggX2_holePrice_X2_planned
theorem dX2_holePrice_0 : decode cX2_holePrice 0 = .ok (.aload_n 0, 1) := by decide +kernel
theorem dX2_holePrice_1 : decode cX2_holePrice 1 = .ok (.aload_n 0, 1) := by decide +kernel
theorem dX2_holePrice_2 : decode cX2_holePrice 2 = .ok (.getfield 45, 3) := by decide +kernel
theorem dX2_holePrice_5 : decode cX2_holePrice 5 = .ok (.invokevirtual 129, 3) := by decide +kernel
theorem dX2_holePrice_8 : decode cX2_holePrice 8 = .ok (.aload_n 0, 1) := by decide +kernel
theorem dX2_holePrice_9 : decode cX2_holePrice 9 = .ok (.getfield 45, 3) := by decide +kernel
theorem dX2_holePrice_12 : decode cX2_holePrice 12 = .ok (.iload_n 1, 1) := by decide +kernel
theorem dX2_holePrice_13 : decode cX2_holePrice 13 = .ok (.iconst (-1), 1) := by decide +kernel
theorem dX2_holePrice_14 : decode cX2_holePrice 14 = .ok (.invokevirtual 243, 3) := by decide +kernel
theorem dX2_holePrice_17 : decode cX2_holePrice 17 = .ok (.aload_n 0, 1) := by decide +kernel
theorem dX2_holePrice_18 : decode cX2_holePrice 18 = .ok (.getfield 45, 3) := by decide +kernel
theorem dX2_holePrice_21 : decode cX2_holePrice 21 = .ok (.invokevirtual 153, 3) := by decide +kernel
theorem dX2_holePrice_24 : decode cX2_holePrice 24 = .ok (.aload_n 0, 1) := by decide +kernel
theorem dX2_holePrice_25 : decode cX2_holePrice 25 = .ok (.invokevirtual 111, 3) := by decide +kernel
theorem dX2_holePrice_28 : decode cX2_holePrice 28 = .ok (.getfield 115, 3) := by decide +kernel
theorem dX2_holePrice_31 : decode cX2_holePrice 31 = .ok (.aload_n 0, 1) := by decide +kernel
theorem dX2_holePrice_32 : decode cX2_holePrice 32 = .ok (.getfield 45, 3) := by decide +kernel
theorem dX2_holePrice_35 : decode cX2_holePrice 35 = .ok (.getfield 115, 3) := by decide +kernel
theorem dX2_holePrice_38 : decode cX2_holePrice 38 = .ok (.isub, 1) := by decide +kernel
theorem dX2_holePrice_39 : decode cX2_holePrice 39 = .ok (.ireturn, 1) := by decide +kernel
set_option maxRecDepth 20000 in
theorem ggX2_tollOf_X2_wayOf : GoodIn wsX2_tollOf wsX2_wayOf := goodIn_r _ [9] (by decide +kernel) (by decide +kernel)
set_option maxRecDepth 20000 in
theorem gX2_tollOf_X2_wayOf : GoodIn wsX2_tollOf (va_wsS RX2 100 yX2_wayOf wsX2_wayOf) := goodIn_app (goodIn_of _ (by decide +kernel)) ggX2_tollOf_X2_wayOf
set_option maxRecDepth 20000 in
theorem ggX2_tollOf_X2_unitCost : GoodIn wsX2_tollOf wsX2_unitCost := goodIn_r _ [13, 14, 15, 16, 17, 6, 7, 8, 9, 18, 19, 20, 21, 22, 23, 4, 24, 25, 26, 27, 28, 29, 30, 31, 32, 33, 34, 35, 36, 37, 38, 39, 40, 41, 42, 43, 44, 45, 46, 47] (by decide +kernel) (by decide +kernel)
set_option maxRecDepth 20000 in
theorem gX2_tollOf_X2_unitCost : GoodIn wsX2_tollOf (wsV RX2 108 RX2 yX2_unitCost wsX2_unitCost) := goodIn_app (goodIn_of _ (by decide +kernel)) ggX2_tollOf_X2_unitCost
theorem dX2_tollOf_0 : decode cX2_tollOf 0 = .ok (.aload_n 0, 1) := by decide +kernel
theorem dX2_tollOf_1 : decode cX2_tollOf 1 = .ok (.getfield 23, 3) := by decide +kernel
theorem dX2_tollOf_4 : decode cX2_tollOf 4 = .ok (.iload_n 1, 1) := by decide +kernel
theorem dX2_tollOf_5 : decode cX2_tollOf 5 = .ok (.iload_n 2, 1) := by decide +kernel
theorem dX2_tollOf_6 : decode cX2_tollOf 6 = .ok (.invokestatic 100, 3) := by decide +kernel
theorem dX2_tollOf_9 : decode cX2_tollOf 9 = .ok (.iaload, 1) := by decide +kernel
theorem dX2_tollOf_10 : decode cX2_tollOf 10 = .ok (.iconst (-1), 1) := by decide +kernel
theorem dX2_tollOf_11 : decode cX2_tollOf 11 = .ok (.if_icmp .ne 5, 3) := by decide +kernel
theorem dX2_tollOf_14 : decode cX2_tollOf 14 = .ok (.iconst 0, 1) := by decide +kernel
theorem dX2_tollOf_15 : decode cX2_tollOf 15 = .ok (.ireturn, 1) := by decide +kernel
theorem dX2_tollOf_16 : decode cX2_tollOf 16 = .ok (.iconst 0, 1) := by decide +kernel
theorem dX2_tollOf_17 : decode cX2_tollOf 17 = .ok (.iload_n 3, 1) := by decide +kernel
theorem dX2_tollOf_18 : decode cX2_tollOf 18 = .ok (.iload 4, 2) := by decide +kernel
theorem dX2_tollOf_20 : decode cX2_tollOf 20 = .ok (.iadd, 1) := by decide +kernel
theorem dX2_tollOf_21 : decode cX2_tollOf 21 = .ok (.aload_n 0, 1) := by decide +kernel
theorem dX2_tollOf_22 : decode cX2_tollOf 22 = .ok (.iload_n 1, 1) := by decide +kernel
theorem dX2_tollOf_23 : decode cX2_tollOf 23 = .ok (.iload_n 2, 1) := by decide +kernel
theorem dX2_tollOf_24 : decode cX2_tollOf 24 = .ok (.invokevirtual 108, 3) := by decide +kernel
theorem dX2_tollOf_27 : decode cX2_tollOf 27 = .ok (.isub, 1) := by decide +kernel
theorem dX2_tollOf_28 : decode cX2_tollOf 28 = .ok (.invokestatic 170, 3) := by decide +kernel
theorem dX2_tollOf_31 : decode cX2_tollOf 31 = .ok (.ireturn, 1) := by decide +kernel
set_option maxRecDepth 20000 in
theorem ggX2_isTooMuchToTry_X2_wayOf : GoodIn wsX2_isTooMuchToTry wsX2_wayOf := goodIn_r _ [13] (by decide +kernel) (by decide +kernel)
set_option maxRecDepth 20000 in
theorem gX2_isTooMuchToTry_X2_wayOf : GoodIn wsX2_isTooMuchToTry (va_wsS RX2 100 yX2_wayOf wsX2_wayOf) := goodIn_app (goodIn_of _ (by decide +kernel)) ggX2_isTooMuchToTry_X2_wayOf
theorem dX2_isTooMuchToTry_0 : decode cX2_isTooMuchToTry 0 = .ok (.iconst 1, 1) := by decide +kernel
theorem dX2_isTooMuchToTry_1 : decode cX2_isTooMuchToTry 1 = .ok (.istore_n 1, 1) := by decide +kernel
theorem dX2_isTooMuchToTry_2 : decode cX2_isTooMuchToTry 2 = .ok (.iconst 0, 1) := by decide +kernel
theorem dX2_isTooMuchToTry_3 : decode cX2_isTooMuchToTry 3 = .ok (.istore_n 2, 1) := by decide +kernel
theorem dX2_isTooMuchToTry_4 : decode cX2_isTooMuchToTry 4 = .ok (.iload_n 2, 1) := by decide +kernel
theorem dX2_isTooMuchToTry_5 : decode cX2_isTooMuchToTry 5 = .ok (.aload_n 0, 1) := by decide +kernel
theorem dX2_isTooMuchToTry_6 : decode cX2_isTooMuchToTry 6 = .ok (.getfield 12, 3) := by decide +kernel
theorem dX2_isTooMuchToTry_9 : decode cX2_isTooMuchToTry 9 = .ok (.getfield 167, 3) := by decide +kernel
theorem dX2_isTooMuchToTry_12 : decode cX2_isTooMuchToTry 12 = .ok (.if_icmp .ge 95, 3) := by decide +kernel
theorem dX2_isTooMuchToTry_15 : decode cX2_isTooMuchToTry 15 = .ok (.iconst 0, 1) := by decide +kernel
theorem dX2_isTooMuchToTry_16 : decode cX2_isTooMuchToTry 16 = .ok (.istore_n 3, 1) := by decide +kernel
theorem dX2_isTooMuchToTry_17 : decode cX2_isTooMuchToTry 17 = .ok (.iload_n 3, 1) := by decide +kernel
theorem dX2_isTooMuchToTry_18 : decode cX2_isTooMuchToTry 18 = .ok (.aload_n 0, 1) := by decide +kernel
theorem dX2_isTooMuchToTry_19 : decode cX2_isTooMuchToTry 19 = .ok (.getfield 16, 3) := by decide +kernel
theorem dX2_isTooMuchToTry_22 : decode cX2_isTooMuchToTry 22 = .ok (.getfield 167, 3) := by decide +kernel
theorem dX2_isTooMuchToTry_25 : decode cX2_isTooMuchToTry 25 = .ok (.if_icmp .ge 76, 3) := by decide +kernel
theorem dX2_isTooMuchToTry_28 : decode cX2_isTooMuchToTry 28 = .ok (.aload_n 0, 1) := by decide +kernel
theorem dX2_isTooMuchToTry_29 : decode cX2_isTooMuchToTry 29 = .ok (.getfield 12, 3) := by decide +kernel
theorem dX2_isTooMuchToTry_32 : decode cX2_isTooMuchToTry 32 = .ok (.getfield 87, 3) := by decide +kernel
theorem dX2_isTooMuchToTry_35 : decode cX2_isTooMuchToTry 35 = .ok (.iload_n 2, 1) := by decide +kernel
theorem dX2_isTooMuchToTry_36 : decode cX2_isTooMuchToTry 36 = .ok (.iaload, 1) := by decide +kernel
theorem dX2_isTooMuchToTry_37 : decode cX2_isTooMuchToTry 37 = .ok (.aload_n 0, 1) := by decide +kernel
theorem dX2_isTooMuchToTry_38 : decode cX2_isTooMuchToTry 38 = .ok (.getfield 16, 3) := by decide +kernel
theorem dX2_isTooMuchToTry_41 : decode cX2_isTooMuchToTry 41 = .ok (.getfield 87, 3) := by decide +kernel
theorem dX2_isTooMuchToTry_44 : decode cX2_isTooMuchToTry 44 = .ok (.iload_n 3, 1) := by decide +kernel
theorem dX2_isTooMuchToTry_45 : decode cX2_isTooMuchToTry 45 = .ok (.iaload, 1) := by decide +kernel
theorem dX2_isTooMuchToTry_46 : decode cX2_isTooMuchToTry 46 = .ok (.invokestatic 136, 3) := by decide +kernel
theorem dX2_isTooMuchToTry_49 : decode cX2_isTooMuchToTry 49 = .ok (.istore 4, 2) := by decide +kernel
theorem dX2_isTooMuchToTry_51 : decode cX2_isTooMuchToTry 51 = .ok (.aload_n 0, 1) := by decide +kernel
theorem dX2_isTooMuchToTry_52 : decode cX2_isTooMuchToTry 52 = .ok (.getfield 23, 3) := by decide +kernel
theorem dX2_isTooMuchToTry_55 : decode cX2_isTooMuchToTry 55 = .ok (.iload_n 2, 1) := by decide +kernel
theorem dX2_isTooMuchToTry_56 : decode cX2_isTooMuchToTry 56 = .ok (.iload_n 3, 1) := by decide +kernel
theorem dX2_isTooMuchToTry_57 : decode cX2_isTooMuchToTry 57 = .ok (.invokestatic 100, 3) := by decide +kernel
theorem dX2_isTooMuchToTry_60 : decode cX2_isTooMuchToTry 60 = .ok (.iaload, 1) := by decide +kernel
theorem dX2_isTooMuchToTry_61 : decode cX2_isTooMuchToTry 61 = .ok (.istore 5, 2) := by decide +kernel
theorem dX2_isTooMuchToTry_63 : decode cX2_isTooMuchToTry 63 = .ok (.iload_n 1, 1) := by decide +kernel
theorem dX2_isTooMuchToTry_64 : decode cX2_isTooMuchToTry 64 = .ok (.iload 5, 2) := by decide +kernel
theorem dX2_isTooMuchToTry_66 : decode cX2_isTooMuchToTry 66 = .ok (.iconst (-1), 1) := by decide +kernel
theorem dX2_isTooMuchToTry_67 : decode cX2_isTooMuchToTry 67 = .ok (.if_icmp .ne 8, 3) := by decide +kernel
theorem dX2_isTooMuchToTry_70 : decode cX2_isTooMuchToTry 70 = .ok (.iload 4, 2) := by decide +kernel
theorem dX2_isTooMuchToTry_72 : decode cX2_isTooMuchToTry 72 = .ok (.goto 10, 3) := by decide +kernel
theorem dX2_isTooMuchToTry_75 : decode cX2_isTooMuchToTry 75 = .ok (.iload 4, 2) := by decide +kernel
theorem dX2_isTooMuchToTry_77 : decode cX2_isTooMuchToTry 77 = .ok (.iload 5, 2) := by decide +kernel
theorem dX2_isTooMuchToTry_79 : decode cX2_isTooMuchToTry 79 = .ok (.invokestatic 136, 3) := by decide +kernel
theorem dX2_isTooMuchToTry_82 : decode cX2_isTooMuchToTry 82 = .ok (.iconst 1, 1) := by decide +kernel
theorem dX2_isTooMuchToTry_83 : decode cX2_isTooMuchToTry 83 = .ok (.iadd, 1) := by decide +kernel
theorem dX2_isTooMuchToTry_84 : decode cX2_isTooMuchToTry 84 = .ok (.imul, 1) := by decide +kernel
theorem dX2_isTooMuchToTry_85 : decode cX2_isTooMuchToTry 85 = .ok (.istore_n 1, 1) := by decide +kernel
theorem dX2_isTooMuchToTry_86 : decode cX2_isTooMuchToTry 86 = .ok (.iload_n 1, 1) := by decide +kernel
theorem dX2_isTooMuchToTry_87 : decode cX2_isTooMuchToTry 87 = .ok (.sipush 20000, 3) := by decide +kernel
theorem dX2_isTooMuchToTry_90 : decode cX2_isTooMuchToTry 90 = .ok (.if_icmp .le 5, 3) := by decide +kernel
theorem dX2_isTooMuchToTry_93 : decode cX2_isTooMuchToTry 93 = .ok (.iconst 1, 1) := by decide +kernel
theorem dX2_isTooMuchToTry_94 : decode cX2_isTooMuchToTry 94 = .ok (.ireturn, 1) := by decide +kernel
theorem dX2_isTooMuchToTry_95 : decode cX2_isTooMuchToTry 95 = .ok (.iinc 3 1, 3) := by decide +kernel
theorem dX2_isTooMuchToTry_98 : decode cX2_isTooMuchToTry 98 = .ok (.goto (-81), 3) := by decide +kernel
theorem dX2_isTooMuchToTry_101 : decode cX2_isTooMuchToTry 101 = .ok (.iinc 2 1, 3) := by decide +kernel
theorem dX2_isTooMuchToTry_104 : decode cX2_isTooMuchToTry 104 = .ok (.goto (-100), 3) := by decide +kernel
theorem dX2_isTooMuchToTry_107 : decode cX2_isTooMuchToTry 107 = .ok (.iconst 0, 1) := by decide +kernel
theorem dX2_isTooMuchToTry_108 : decode cX2_isTooMuchToTry 108 = .ok (.ireturn, 1) := by decide +kernel
set_option maxRecDepth 20000 in
theorem ggX2_canGoByOrder_X2_sum : GoodIn wsX2_canGoByOrder wsX2_sum := goodIn_r _ [10] (by decide +kernel) (by decide +kernel)
set_option maxRecDepth 20000 in
theorem gX2_canGoByOrder_X2_sum : GoodIn wsX2_canGoByOrder (va_wsS RX2 205 yX2_sum wsX2_sum) := goodIn_app (goodIn_of _ (by decide +kernel)) ggX2_canGoByOrder_X2_sum
theorem dX2_canGoByOrder_0 : decode cX2_canGoByOrder 0 = .ok (.aload_n 0, 1) := by decide +kernel
theorem dX2_canGoByOrder_1 : decode cX2_canGoByOrder 1 = .ok (.getfield 48, 3) := by decide +kernel
theorem dX2_canGoByOrder_4 : decode cX2_canGoByOrder 4 = .ok (.iconst 1, 1) := by decide +kernel
theorem dX2_canGoByOrder_5 : decode cX2_canGoByOrder 5 = .ok (.if_icmp .eq 26, 3) := by decide +kernel
theorem dX2_canGoByOrder_8 : decode cX2_canGoByOrder 8 = .ok (.aload_n 0, 1) := by decide +kernel
theorem dX2_canGoByOrder_9 : decode cX2_canGoByOrder 9 = .ok (.getfield 12, 3) := by decide +kernel
theorem dX2_canGoByOrder_12 : decode cX2_canGoByOrder 12 = .ok (.getfield 87, 3) := by decide +kernel
theorem dX2_canGoByOrder_15 : decode cX2_canGoByOrder 15 = .ok (.invokestatic 205, 3) := by decide +kernel
theorem dX2_canGoByOrder_18 : decode cX2_canGoByOrder 18 = .ok (.aload_n 0, 1) := by decide +kernel
theorem dX2_canGoByOrder_19 : decode cX2_canGoByOrder 19 = .ok (.getfield 16, 3) := by decide +kernel
theorem dX2_canGoByOrder_22 : decode cX2_canGoByOrder 22 = .ok (.getfield 87, 3) := by decide +kernel
theorem dX2_canGoByOrder_25 : decode cX2_canGoByOrder 25 = .ok (.invokestatic 205, 3) := by decide +kernel
theorem dX2_canGoByOrder_28 : decode cX2_canGoByOrder 28 = .ok (.if_icmp .eq 5, 3) := by decide +kernel
theorem dX2_canGoByOrder_31 : decode cX2_canGoByOrder 31 = .ok (.iconst 0, 1) := by decide +kernel
theorem dX2_canGoByOrder_32 : decode cX2_canGoByOrder 32 = .ok (.ireturn, 1) := by decide +kernel
theorem dX2_canGoByOrder_33 : decode cX2_canGoByOrder 33 = .ok (.iconst 0, 1) := by decide +kernel
theorem dX2_canGoByOrder_34 : decode cX2_canGoByOrder 34 = .ok (.istore_n 1, 1) := by decide +kernel
theorem dX2_canGoByOrder_35 : decode cX2_canGoByOrder 35 = .ok (.iload_n 1, 1) := by decide +kernel
theorem dX2_canGoByOrder_36 : decode cX2_canGoByOrder 36 = .ok (.bipush 25, 2) := by decide +kernel
theorem dX2_canGoByOrder_38 : decode cX2_canGoByOrder 38 = .ok (.if_icmp .ge 31, 3) := by decide +kernel
theorem dX2_canGoByOrder_41 : decode cX2_canGoByOrder 41 = .ok (.aload_n 0, 1) := by decide +kernel
theorem dX2_canGoByOrder_42 : decode cX2_canGoByOrder 42 = .ok (.getfield 19, 3) := by decide +kernel
theorem dX2_canGoByOrder_45 : decode cX2_canGoByOrder 45 = .ok (.iload_n 1, 1) := by decide +kernel
theorem dX2_canGoByOrder_46 : decode cX2_canGoByOrder 46 = .ok (.iaload, 1) := by decide +kernel
theorem dX2_canGoByOrder_47 : decode cX2_canGoByOrder 47 = .ok (.iconst (-1), 1) := by decide +kernel
theorem dX2_canGoByOrder_48 : decode cX2_canGoByOrder 48 = .ok (.if_icmp .ne 13, 3) := by decide +kernel
theorem dX2_canGoByOrder_51 : decode cX2_canGoByOrder 51 = .ok (.aload_n 0, 1) := by decide +kernel
theorem dX2_canGoByOrder_52 : decode cX2_canGoByOrder 52 = .ok (.getfield 23, 3) := by decide +kernel
theorem dX2_canGoByOrder_55 : decode cX2_canGoByOrder 55 = .ok (.iload_n 1, 1) := by decide +kernel
theorem dX2_canGoByOrder_56 : decode cX2_canGoByOrder 56 = .ok (.iaload, 1) := by decide +kernel
theorem dX2_canGoByOrder_57 : decode cX2_canGoByOrder 57 = .ok (.iconst (-1), 1) := by decide +kernel
theorem dX2_canGoByOrder_58 : decode cX2_canGoByOrder 58 = .ok (.if_icmp .eq 5, 3) := by decide +kernel
theorem dX2_canGoByOrder_61 : decode cX2_canGoByOrder 61 = .ok (.iconst 0, 1) := by decide +kernel
theorem dX2_canGoByOrder_62 : decode cX2_canGoByOrder 62 = .ok (.ireturn, 1) := by decide +kernel
theorem dX2_canGoByOrder_63 : decode cX2_canGoByOrder 63 = .ok (.iinc 1 1, 3) := by decide +kernel
theorem dX2_canGoByOrder_66 : decode cX2_canGoByOrder 66 = .ok (.goto (-31), 3) := by decide +kernel
theorem dX2_canGoByOrder_69 : decode cX2_canGoByOrder 69 = .ok (.iconst 1, 1) := by decide +kernel
theorem dX2_canGoByOrder_70 : decode cX2_canGoByOrder 70 = .ok (.ireturn, 1) := by decide +kernel
set_option maxRecDepth 20000 in
theorem ggX2_fillSurpluses_J7_fill_53178 : GoodIn wsX2_fillSurpluses wsJ7_fill_53178 := goodIn_r _ [10] (by decide +kernel) (by decide +kernel)
set_option maxRecDepth 20000 in
theorem gX2_fillSurpluses_J7_fill_53178 : GoodIn wsX2_fillSurpluses (va_wsS RX2 65 yJ7_fill_53178 wsJ7_fill_53178) := goodIn_app (goodIn_of _ (by decide +kernel)) ggX2_fillSurpluses_J7_fill_53178
set_option maxRecDepth 20000 in
theorem ggX2_fillSurpluses_X2_addSurplus : GoodIn wsX2_fillSurpluses wsX2_addSurplus := goodIn_r _ [15, 16, 17, 1, 18, 19, 20, 21, 22, 23, 24, 25, 26, 27, 28, 29, 30, 31, 32] (by decide +kernel) (by decide +kernel)
set_option maxRecDepth 20000 in
theorem gX2_fillSurpluses_X2_addSurplus : GoodIn wsX2_fillSurpluses (wsV RX2 249 RX2 yX2_addSurplus wsX2_addSurplus) := goodIn_app (goodIn_of _ (by decide +kernel)) ggX2_fillSurpluses_X2_addSurplus
theorem dX2_fillSurpluses_0 : decode cX2_fillSurpluses 0 = .ok (.aload_n 0, 1) := by decide +kernel
theorem dX2_fillSurpluses_1 : decode cX2_fillSurpluses 1 = .ok (.getfield 29, 3) := by decide +kernel
theorem dX2_fillSurpluses_4 : decode cX2_fillSurpluses 4 = .ok (.iconst 0, 1) := by decide +kernel
theorem dX2_fillSurpluses_5 : decode cX2_fillSurpluses 5 = .ok (.invokestatic 65, 3) := by decide +kernel
theorem dX2_fillSurpluses_8 : decode cX2_fillSurpluses 8 = .ok (.iconst 0, 1) := by decide +kernel
theorem dX2_fillSurpluses_9 : decode cX2_fillSurpluses 9 = .ok (.istore_n 2, 1) := by decide +kernel
theorem dX2_fillSurpluses_10 : decode cX2_fillSurpluses 10 = .ok (.iload_n 2, 1) := by decide +kernel
theorem dX2_fillSurpluses_11 : decode cX2_fillSurpluses 11 = .ok (.aload_n 0, 1) := by decide +kernel
theorem dX2_fillSurpluses_12 : decode cX2_fillSurpluses 12 = .ok (.getfield 12, 3) := by decide +kernel
theorem dX2_fillSurpluses_15 : decode cX2_fillSurpluses 15 = .ok (.getfield 167, 3) := by decide +kernel
theorem dX2_fillSurpluses_18 : decode cX2_fillSurpluses 18 = .ok (.if_icmp .ge 32, 3) := by decide +kernel
theorem dX2_fillSurpluses_21 : decode cX2_fillSurpluses 21 = .ok (.aload_n 0, 1) := by decide +kernel
theorem dX2_fillSurpluses_22 : decode cX2_fillSurpluses 22 = .ok (.aload_n 0, 1) := by decide +kernel
theorem dX2_fillSurpluses_23 : decode cX2_fillSurpluses 23 = .ok (.getfield 12, 3) := by decide +kernel
theorem dX2_fillSurpluses_26 : decode cX2_fillSurpluses 26 = .ok (.getfield 90, 3) := by decide +kernel
theorem dX2_fillSurpluses_29 : decode cX2_fillSurpluses 29 = .ok (.iload_n 2, 1) := by decide +kernel
theorem dX2_fillSurpluses_30 : decode cX2_fillSurpluses 30 = .ok (.iaload, 1) := by decide +kernel
theorem dX2_fillSurpluses_31 : decode cX2_fillSurpluses 31 = .ok (.aload_n 0, 1) := by decide +kernel
theorem dX2_fillSurpluses_32 : decode cX2_fillSurpluses 32 = .ok (.getfield 12, 3) := by decide +kernel
theorem dX2_fillSurpluses_35 : decode cX2_fillSurpluses 35 = .ok (.getfield 87, 3) := by decide +kernel
theorem dX2_fillSurpluses_38 : decode cX2_fillSurpluses 38 = .ok (.iload_n 2, 1) := by decide +kernel
theorem dX2_fillSurpluses_39 : decode cX2_fillSurpluses 39 = .ok (.iaload, 1) := by decide +kernel
theorem dX2_fillSurpluses_40 : decode cX2_fillSurpluses 40 = .ok (.iload_n 1, 1) := by decide +kernel
theorem dX2_fillSurpluses_41 : decode cX2_fillSurpluses 41 = .ok (.invokevirtual 249, 3) := by decide +kernel
theorem dX2_fillSurpluses_44 : decode cX2_fillSurpluses 44 = .ok (.iinc 2 1, 3) := by decide +kernel
theorem dX2_fillSurpluses_47 : decode cX2_fillSurpluses 47 = .ok (.goto (-37), 3) := by decide +kernel
theorem dX2_fillSurpluses_50 : decode cX2_fillSurpluses 50 = .ok (.iconst 0, 1) := by decide +kernel
theorem dX2_fillSurpluses_51 : decode cX2_fillSurpluses 51 = .ok (.istore_n 2, 1) := by decide +kernel
theorem dX2_fillSurpluses_52 : decode cX2_fillSurpluses 52 = .ok (.iload_n 2, 1) := by decide +kernel
theorem dX2_fillSurpluses_53 : decode cX2_fillSurpluses 53 = .ok (.aload_n 0, 1) := by decide +kernel
theorem dX2_fillSurpluses_54 : decode cX2_fillSurpluses 54 = .ok (.getfield 16, 3) := by decide +kernel
theorem dX2_fillSurpluses_57 : decode cX2_fillSurpluses 57 = .ok (.getfield 167, 3) := by decide +kernel
theorem dX2_fillSurpluses_60 : decode cX2_fillSurpluses 60 = .ok (.if_icmp .ge 33, 3) := by decide +kernel
theorem dX2_fillSurpluses_63 : decode cX2_fillSurpluses 63 = .ok (.aload_n 0, 1) := by decide +kernel
theorem dX2_fillSurpluses_64 : decode cX2_fillSurpluses 64 = .ok (.aload_n 0, 1) := by decide +kernel
theorem dX2_fillSurpluses_65 : decode cX2_fillSurpluses 65 = .ok (.getfield 16, 3) := by decide +kernel
theorem dX2_fillSurpluses_68 : decode cX2_fillSurpluses 68 = .ok (.getfield 90, 3) := by decide +kernel
theorem dX2_fillSurpluses_71 : decode cX2_fillSurpluses 71 = .ok (.iload_n 2, 1) := by decide +kernel
theorem dX2_fillSurpluses_72 : decode cX2_fillSurpluses 72 = .ok (.iaload, 1) := by decide +kernel
theorem dX2_fillSurpluses_73 : decode cX2_fillSurpluses 73 = .ok (.aload_n 0, 1) := by decide +kernel
theorem dX2_fillSurpluses_74 : decode cX2_fillSurpluses 74 = .ok (.getfield 16, 3) := by decide +kernel
theorem dX2_fillSurpluses_77 : decode cX2_fillSurpluses 77 = .ok (.getfield 87, 3) := by decide +kernel
theorem dX2_fillSurpluses_80 : decode cX2_fillSurpluses 80 = .ok (.iload_n 2, 1) := by decide +kernel
theorem dX2_fillSurpluses_81 : decode cX2_fillSurpluses 81 = .ok (.iaload, 1) := by decide +kernel
theorem dX2_fillSurpluses_82 : decode cX2_fillSurpluses 82 = .ok (.ineg, 1) := by decide +kernel
theorem dX2_fillSurpluses_83 : decode cX2_fillSurpluses 83 = .ok (.iload_n 1, 1) := by decide +kernel
theorem dX2_fillSurpluses_84 : decode cX2_fillSurpluses 84 = .ok (.invokevirtual 249, 3) := by decide +kernel
theorem dX2_fillSurpluses_87 : decode cX2_fillSurpluses 87 = .ok (.iinc 2 1, 3) := by decide +kernel
theorem dX2_fillSurpluses_90 : decode cX2_fillSurpluses 90 = .ok (.goto (-38), 3) := by decide +kernel
theorem dX2_fillSurpluses_93 : decode cX2_fillSurpluses 93 = .ok (.return_, 1) := by decide +kernel
theorem dX2_addSurplus_0 : decode cX2_addSurplus 0 = .ok (.aload_n 0, 1) := by decide +kernel
theorem dX2_addSurplus_1 : decode cX2_addSurplus 1 = .ok (.getfield 48, 3) := by decide +kernel
theorem dX2_addSurplus_4 : decode cX2_addSurplus 4 = .ok (.iconst 2, 1) := by decide +kernel
theorem dX2_addSurplus_5 : decode cX2_addSurplus 5 = .ok (.if_icmp .ne 19, 3) := by decide +kernel
theorem dX2_addSurplus_8 : decode cX2_addSurplus 8 = .ok (.aload_n 0, 1) := by decide +kernel
theorem dX2_addSurplus_9 : decode cX2_addSurplus 9 = .ok (.getfield 52, 3) := by decide +kernel
theorem dX2_addSurplus_12 : decode cX2_addSurplus 12 = .ok (.ifCond .le 12, 3) := by decide +kernel
theorem dX2_addSurplus_15 : decode cX2_addSurplus 15 = .ok (.iload_n 1, 1) := by decide +kernel
theorem dX2_addSurplus_16 : decode cX2_addSurplus 16 = .ok (.aload_n 0, 1) := by decide +kernel
theorem dX2_addSurplus_17 : decode cX2_addSurplus 17 = .ok (.getfield 52, 3) := by decide +kernel
theorem dX2_addSurplus_20 : decode cX2_addSurplus 20 = .ok (.irem, 1) := by decide +kernel
theorem dX2_addSurplus_21 : decode cX2_addSurplus 21 = .ok (.goto 4, 3) := by decide +kernel
theorem dX2_addSurplus_24 : decode cX2_addSurplus 24 = .ok (.iload_n 1, 1) := by decide +kernel
theorem dX2_addSurplus_25 : decode cX2_addSurplus 25 = .ok (.istore 4, 2) := by decide +kernel
theorem dX2_addSurplus_27 : decode cX2_addSurplus 27 = .ok (.iload 4, 2) := by decide +kernel
theorem dX2_addSurplus_29 : decode cX2_addSurplus 29 = .ok (.istore 5, 2) := by decide +kernel
theorem dX2_addSurplus_31 : decode cX2_addSurplus 31 = .ok (.iload 5, 2) := by decide +kernel
theorem dX2_addSurplus_33 : decode cX2_addSurplus 33 = .ok (.iload_n 3, 1) := by decide +kernel
theorem dX2_addSurplus_34 : decode cX2_addSurplus 34 = .ok (.if_icmp .ge 28, 3) := by decide +kernel
theorem dX2_addSurplus_37 : decode cX2_addSurplus 37 = .ok (.iload 5, 2) := by decide +kernel
theorem dX2_addSurplus_39 : decode cX2_addSurplus 39 = .ok (.sipush 200, 3) := by decide +kernel
theorem dX2_addSurplus_42 : decode cX2_addSurplus 42 = .ok (.if_icmp .ge 20, 3) := by decide +kernel
theorem dX2_addSurplus_45 : decode cX2_addSurplus 45 = .ok (.aload_n 0, 1) := by decide +kernel
theorem dX2_addSurplus_46 : decode cX2_addSurplus 46 = .ok (.getfield 29, 3) := by decide +kernel
theorem dX2_addSurplus_49 : decode cX2_addSurplus 49 = .ok (.iload 5, 2) := by decide +kernel
theorem dX2_addSurplus_51 : decode cX2_addSurplus 51 = .ok (.dup2, 1) := by decide +kernel
theorem dX2_addSurplus_52 : decode cX2_addSurplus 52 = .ok (.iaload, 1) := by decide +kernel
theorem dX2_addSurplus_53 : decode cX2_addSurplus 53 = .ok (.iload_n 2, 1) := by decide +kernel
theorem dX2_addSurplus_54 : decode cX2_addSurplus 54 = .ok (.iadd, 1) := by decide +kernel
theorem dX2_addSurplus_55 : decode cX2_addSurplus 55 = .ok (.iastore, 1) := by decide +kernel
theorem dX2_addSurplus_56 : decode cX2_addSurplus 56 = .ok (.iinc 5 1, 3) := by decide +kernel
theorem dX2_addSurplus_59 : decode cX2_addSurplus 59 = .ok (.goto (-28), 3) := by decide +kernel
theorem dX2_addSurplus_62 : decode cX2_addSurplus 62 = .ok (.return_, 1) := by decide +kernel
theorem dX2_sizesOff_0 : decode cX2_sizesOff 0 = .ok (.iconst 0, 1) := by decide +kernel
theorem dX2_sizesOff_1 : decode cX2_sizesOff 1 = .ok (.istore_n 3, 1) := by decide +kernel
theorem dX2_sizesOff_2 : decode cX2_sizesOff 2 = .ok (.iconst 0, 1) := by decide +kernel
theorem dX2_sizesOff_3 : decode cX2_sizesOff 3 = .ok (.istore 4, 2) := by decide +kernel
theorem dX2_sizesOff_5 : decode cX2_sizesOff 5 = .ok (.iload 4, 2) := by decide +kernel
theorem dX2_sizesOff_7 : decode cX2_sizesOff 7 = .ok (.iload_n 2, 1) := by decide +kernel
theorem dX2_sizesOff_8 : decode cX2_sizesOff 8 = .ok (.if_icmp .ge 32, 3) := by decide +kernel
theorem dX2_sizesOff_11 : decode cX2_sizesOff 11 = .ok (.iload 4, 2) := by decide +kernel
theorem dX2_sizesOff_13 : decode cX2_sizesOff 13 = .ok (.sipush 200, 3) := by decide +kernel
theorem dX2_sizesOff_16 : decode cX2_sizesOff 16 = .ok (.if_icmp .ge 24, 3) := by decide +kernel
theorem dX2_sizesOff_19 : decode cX2_sizesOff 19 = .ok (.iload_n 3, 1) := by decide +kernel
theorem dX2_sizesOff_20 : decode cX2_sizesOff 20 = .ok (.aload_n 0, 1) := by decide +kernel
theorem dX2_sizesOff_21 : decode cX2_sizesOff 21 = .ok (.getfield 29, 3) := by decide +kernel
theorem dX2_sizesOff_24 : decode cX2_sizesOff 24 = .ok (.iload 4, 2) := by decide +kernel
theorem dX2_sizesOff_26 : decode cX2_sizesOff 26 = .ok (.iaload, 1) := by decide +kernel
theorem dX2_sizesOff_27 : decode cX2_sizesOff 27 = .ok (.iload_n 1, 1) := by decide +kernel
theorem dX2_sizesOff_28 : decode cX2_sizesOff 28 = .ok (.isub, 1) := by decide +kernel
theorem dX2_sizesOff_29 : decode cX2_sizesOff 29 = .ok (.invokestatic 234, 3) := by decide +kernel
theorem dX2_sizesOff_32 : decode cX2_sizesOff 32 = .ok (.iadd, 1) := by decide +kernel
theorem dX2_sizesOff_33 : decode cX2_sizesOff 33 = .ok (.istore_n 3, 1) := by decide +kernel
theorem dX2_sizesOff_34 : decode cX2_sizesOff 34 = .ok (.iinc 4 1, 3) := by decide +kernel
theorem dX2_sizesOff_37 : decode cX2_sizesOff 37 = .ok (.goto (-32), 3) := by decide +kernel
theorem dX2_sizesOff_40 : decode cX2_sizesOff 40 = .ok (.iload_n 3, 1) := by decide +kernel
theorem dX2_sizesOff_41 : decode cX2_sizesOff 41 = .ok (.ireturn, 1) := by decide +kernel
set_option maxRecDepth 20000 in
theorem ggX2_handFrom_X2_wayOf : GoodIn wsX2_handFrom wsX2_wayOf := goodIn_r _ [7] (by decide +kernel) (by decide +kernel)
set_option maxRecDepth 20000 in
theorem gX2_handFrom_X2_wayOf : GoodIn wsX2_handFrom (va_wsS RX2 100 yX2_wayOf wsX2_wayOf) := goodIn_app (goodIn_of _ (by decide +kernel)) ggX2_handFrom_X2_wayOf
theorem dX2_handFrom_0 : decode cX2_handFrom 0 = .ok (.iconst 0, 1) := by decide +kernel
theorem dX2_handFrom_1 : decode cX2_handFrom 1 = .ok (.istore_n 2, 1) := by decide +kernel
theorem dX2_handFrom_2 : decode cX2_handFrom 2 = .ok (.iconst 0, 1) := by decide +kernel
theorem dX2_handFrom_3 : decode cX2_handFrom 3 = .ok (.istore_n 3, 1) := by decide +kernel
theorem dX2_handFrom_4 : decode cX2_handFrom 4 = .ok (.iload_n 3, 1) := by decide +kernel
theorem dX2_handFrom_5 : decode cX2_handFrom 5 = .ok (.aload_n 0, 1) := by decide +kernel
theorem dX2_handFrom_6 : decode cX2_handFrom 6 = .ok (.getfield 16, 3) := by decide +kernel
theorem dX2_handFrom_9 : decode cX2_handFrom 9 = .ok (.getfield 167, 3) := by decide +kernel
theorem dX2_handFrom_12 : decode cX2_handFrom 12 = .ok (.if_icmp .ge 22, 3) := by decide +kernel
theorem dX2_handFrom_15 : decode cX2_handFrom 15 = .ok (.iload_n 2, 1) := by decide +kernel
theorem dX2_handFrom_16 : decode cX2_handFrom 16 = .ok (.aload_n 0, 1) := by decide +kernel
theorem dX2_handFrom_17 : decode cX2_handFrom 17 = .ok (.getfield 26, 3) := by decide +kernel
theorem dX2_handFrom_20 : decode cX2_handFrom 20 = .ok (.iload_n 1, 1) := by decide +kernel
theorem dX2_handFrom_21 : decode cX2_handFrom 21 = .ok (.iload_n 3, 1) := by decide +kernel
theorem dX2_handFrom_22 : decode cX2_handFrom 22 = .ok (.invokestatic 100, 3) := by decide +kernel
theorem dX2_handFrom_25 : decode cX2_handFrom 25 = .ok (.iaload, 1) := by decide +kernel
theorem dX2_handFrom_26 : decode cX2_handFrom 26 = .ok (.iadd, 1) := by decide +kernel
theorem dX2_handFrom_27 : decode cX2_handFrom 27 = .ok (.istore_n 2, 1) := by decide +kernel
theorem dX2_handFrom_28 : decode cX2_handFrom 28 = .ok (.iinc 3 1, 3) := by decide +kernel
theorem dX2_handFrom_31 : decode cX2_handFrom 31 = .ok (.goto (-27), 3) := by decide +kernel
theorem dX2_handFrom_34 : decode cX2_handFrom 34 = .ok (.iload_n 2, 1) := by decide +kernel
theorem dX2_handFrom_35 : decode cX2_handFrom 35 = .ok (.ireturn, 1) := by decide +kernel
set_option maxRecDepth 20000 in
theorem ggX2_handTo_X2_wayOf : GoodIn wsX2_handTo wsX2_wayOf := goodIn_r _ [7] (by decide +kernel) (by decide +kernel)
set_option maxRecDepth 20000 in
theorem gX2_handTo_X2_wayOf : GoodIn wsX2_handTo (va_wsS RX2 100 yX2_wayOf wsX2_wayOf) := goodIn_app (goodIn_of _ (by decide +kernel)) ggX2_handTo_X2_wayOf
theorem dX2_handTo_0 : decode cX2_handTo 0 = .ok (.iconst 0, 1) := by decide +kernel
theorem dX2_handTo_1 : decode cX2_handTo 1 = .ok (.istore_n 2, 1) := by decide +kernel
theorem dX2_handTo_2 : decode cX2_handTo 2 = .ok (.iconst 0, 1) := by decide +kernel
theorem dX2_handTo_3 : decode cX2_handTo 3 = .ok (.istore_n 3, 1) := by decide +kernel
theorem dX2_handTo_4 : decode cX2_handTo 4 = .ok (.iload_n 3, 1) := by decide +kernel
theorem dX2_handTo_5 : decode cX2_handTo 5 = .ok (.aload_n 0, 1) := by decide +kernel
theorem dX2_handTo_6 : decode cX2_handTo 6 = .ok (.getfield 12, 3) := by decide +kernel
theorem dX2_handTo_9 : decode cX2_handTo 9 = .ok (.getfield 167, 3) := by decide +kernel
theorem dX2_handTo_12 : decode cX2_handTo 12 = .ok (.if_icmp .ge 22, 3) := by decide +kernel
theorem dX2_handTo_15 : decode cX2_handTo 15 = .ok (.iload_n 2, 1) := by decide +kernel
theorem dX2_handTo_16 : decode cX2_handTo 16 = .ok (.aload_n 0, 1) := by decide +kernel
theorem dX2_handTo_17 : decode cX2_handTo 17 = .ok (.getfield 26, 3) := by decide +kernel
theorem dX2_handTo_20 : decode cX2_handTo 20 = .ok (.iload_n 3, 1) := by decide +kernel
theorem dX2_handTo_21 : decode cX2_handTo 21 = .ok (.iload_n 1, 1) := by decide +kernel
theorem dX2_handTo_22 : decode cX2_handTo 22 = .ok (.invokestatic 100, 3) := by decide +kernel
theorem dX2_handTo_25 : decode cX2_handTo 25 = .ok (.iaload, 1) := by decide +kernel
theorem dX2_handTo_26 : decode cX2_handTo 26 = .ok (.iadd, 1) := by decide +kernel
theorem dX2_handTo_27 : decode cX2_handTo 27 = .ok (.istore_n 2, 1) := by decide +kernel
theorem dX2_handTo_28 : decode cX2_handTo 28 = .ok (.iinc 3 1, 3) := by decide +kernel
theorem dX2_handTo_31 : decode cX2_handTo 31 = .ok (.goto (-27), 3) := by decide +kernel
theorem dX2_handTo_34 : decode cX2_handTo 34 = .ok (.iload_n 2, 1) := by decide +kernel
theorem dX2_handTo_35 : decode cX2_handTo 35 = .ok (.ireturn, 1) := by decide +kernel
set_option maxRecDepth 20000 in
theorem ggX2_faultByHand_X2_handFrom : GoodIn wsX2_faultByHand wsX2_handFrom := goodIn_r _ [11, 4, 2, 6, 12, 13, 10, 14, 19, 20, 21, 22, 23, 24, 25, 26, 27, 28, 29, 30, 31, 32, 33, 34, 35, 36] (by decide +kernel) (by decide +kernel)
set_option maxRecDepth 20000 in
theorem gX2_faultByHand_X2_handFrom : GoodIn wsX2_faultByHand (wsV RX2 202 RX2 yX2_handFrom wsX2_handFrom) := goodIn_app (goodIn_of _ (by decide +kernel)) ggX2_faultByHand_X2_handFrom
set_option maxRecDepth 20000 in
theorem ggX2_faultByHand_X2_handTo : GoodIn wsX2_faultByHand wsX2_handTo := goodIn_r _ [18, 1, 2, 6, 12, 13, 10, 14, 19, 20, 21, 22, 23, 24, 25, 26, 27, 28, 29, 30, 31, 32, 33, 34, 35, 36] (by decide +kernel) (by decide +kernel)
set_option maxRecDepth 20000 in
theorem gX2_faultByHand_X2_handTo : GoodIn wsX2_faultByHand (wsV RX2 199 RX2 yX2_handTo wsX2_handTo) := goodIn_app (goodIn_of _ (by decide +kernel)) ggX2_faultByHand_X2_handTo
theorem dX2_faultByHand_0 : decode cX2_faultByHand 0 = .ok (.iconst 0, 1) := by decide +kernel
theorem dX2_faultByHand_1 : decode cX2_faultByHand 1 = .ok (.istore_n 1, 1) := by decide +kernel
theorem dX2_faultByHand_2 : decode cX2_faultByHand 2 = .ok (.iload_n 1, 1) := by decide +kernel
theorem dX2_faultByHand_3 : decode cX2_faultByHand 3 = .ok (.aload_n 0, 1) := by decide +kernel
theorem dX2_faultByHand_4 : decode cX2_faultByHand 4 = .ok (.getfield 12, 3) := by decide +kernel
theorem dX2_faultByHand_7 : decode cX2_faultByHand 7 = .ok (.getfield 167, 3) := by decide +kernel
theorem dX2_faultByHand_10 : decode cX2_faultByHand 10 = .ok (.if_icmp .ge 28, 3) := by decide +kernel
theorem dX2_faultByHand_13 : decode cX2_faultByHand 13 = .ok (.aload_n 0, 1) := by decide +kernel
theorem dX2_faultByHand_14 : decode cX2_faultByHand 14 = .ok (.iload_n 1, 1) := by decide +kernel
theorem dX2_faultByHand_15 : decode cX2_faultByHand 15 = .ok (.invokevirtual 202, 3) := by decide +kernel
theorem dX2_faultByHand_18 : decode cX2_faultByHand 18 = .ok (.aload_n 0, 1) := by decide +kernel
theorem dX2_faultByHand_19 : decode cX2_faultByHand 19 = .ok (.getfield 12, 3) := by decide +kernel
theorem dX2_faultByHand_22 : decode cX2_faultByHand 22 = .ok (.getfield 87, 3) := by decide +kernel
theorem dX2_faultByHand_25 : decode cX2_faultByHand 25 = .ok (.iload_n 1, 1) := by decide +kernel
theorem dX2_faultByHand_26 : decode cX2_faultByHand 26 = .ok (.iaload, 1) := by decide +kernel
theorem dX2_faultByHand_27 : decode cX2_faultByHand 27 = .ok (.if_icmp .le 5, 3) := by decide +kernel
theorem dX2_faultByHand_30 : decode cX2_faultByHand 30 = .ok (.iconst 1, 1) := by decide +kernel
theorem dX2_faultByHand_31 : decode cX2_faultByHand 31 = .ok (.ireturn, 1) := by decide +kernel
theorem dX2_faultByHand_32 : decode cX2_faultByHand 32 = .ok (.iinc 1 1, 3) := by decide +kernel
theorem dX2_faultByHand_35 : decode cX2_faultByHand 35 = .ok (.goto (-33), 3) := by decide +kernel
theorem dX2_faultByHand_38 : decode cX2_faultByHand 38 = .ok (.iconst 0, 1) := by decide +kernel
theorem dX2_faultByHand_39 : decode cX2_faultByHand 39 = .ok (.istore_n 1, 1) := by decide +kernel
theorem dX2_faultByHand_40 : decode cX2_faultByHand 40 = .ok (.iload_n 1, 1) := by decide +kernel
theorem dX2_faultByHand_41 : decode cX2_faultByHand 41 = .ok (.aload_n 0, 1) := by decide +kernel
theorem dX2_faultByHand_42 : decode cX2_faultByHand 42 = .ok (.getfield 16, 3) := by decide +kernel
theorem dX2_faultByHand_45 : decode cX2_faultByHand 45 = .ok (.getfield 167, 3) := by decide +kernel
theorem dX2_faultByHand_48 : decode cX2_faultByHand 48 = .ok (.if_icmp .ge 28, 3) := by decide +kernel
theorem dX2_faultByHand_51 : decode cX2_faultByHand 51 = .ok (.aload_n 0, 1) := by decide +kernel
theorem dX2_faultByHand_52 : decode cX2_faultByHand 52 = .ok (.iload_n 1, 1) := by decide +kernel
theorem dX2_faultByHand_53 : decode cX2_faultByHand 53 = .ok (.invokevirtual 199, 3) := by decide +kernel
theorem dX2_faultByHand_56 : decode cX2_faultByHand 56 = .ok (.aload_n 0, 1) := by decide +kernel
theorem dX2_faultByHand_57 : decode cX2_faultByHand 57 = .ok (.getfield 16, 3) := by decide +kernel
theorem dX2_faultByHand_60 : decode cX2_faultByHand 60 = .ok (.getfield 87, 3) := by decide +kernel
theorem dX2_faultByHand_63 : decode cX2_faultByHand 63 = .ok (.iload_n 1, 1) := by decide +kernel
theorem dX2_faultByHand_64 : decode cX2_faultByHand 64 = .ok (.iaload, 1) := by decide +kernel
theorem dX2_faultByHand_65 : decode cX2_faultByHand 65 = .ok (.if_icmp .le 5, 3) := by decide +kernel
theorem dX2_faultByHand_68 : decode cX2_faultByHand 68 = .ok (.iconst 2, 1) := by decide +kernel
theorem dX2_faultByHand_69 : decode cX2_faultByHand 69 = .ok (.ireturn, 1) := by decide +kernel
theorem dX2_faultByHand_70 : decode cX2_faultByHand 70 = .ok (.iinc 1 1, 3) := by decide +kernel
theorem dX2_faultByHand_73 : decode cX2_faultByHand 73 = .ok (.goto (-33), 3) := by decide +kernel
theorem dX2_faultByHand_76 : decode cX2_faultByHand 76 = .ok (.iconst 0, 1) := by decide +kernel
theorem dX2_faultByHand_77 : decode cX2_faultByHand 77 = .ok (.istore_n 1, 1) := by decide +kernel
theorem dX2_faultByHand_78 : decode cX2_faultByHand 78 = .ok (.iload_n 1, 1) := by decide +kernel
theorem dX2_faultByHand_79 : decode cX2_faultByHand 79 = .ok (.bipush 25, 2) := by decide +kernel
theorem dX2_faultByHand_81 : decode cX2_faultByHand 81 = .ok (.if_icmp .ge 36, 3) := by decide +kernel
theorem dX2_faultByHand_84 : decode cX2_faultByHand 84 = .ok (.aload_n 0, 1) := by decide +kernel
theorem dX2_faultByHand_85 : decode cX2_faultByHand 85 = .ok (.getfield 23, 3) := by decide +kernel
theorem dX2_faultByHand_88 : decode cX2_faultByHand 88 = .ok (.iload_n 1, 1) := by decide +kernel
theorem dX2_faultByHand_89 : decode cX2_faultByHand 89 = .ok (.iaload, 1) := by decide +kernel
theorem dX2_faultByHand_90 : decode cX2_faultByHand 90 = .ok (.iconst (-1), 1) := by decide +kernel
theorem dX2_faultByHand_91 : decode cX2_faultByHand 91 = .ok (.if_icmp .eq 20, 3) := by decide +kernel
theorem dX2_faultByHand_94 : decode cX2_faultByHand 94 = .ok (.aload_n 0, 1) := by decide +kernel
theorem dX2_faultByHand_95 : decode cX2_faultByHand 95 = .ok (.getfield 26, 3) := by decide +kernel
theorem dX2_faultByHand_98 : decode cX2_faultByHand 98 = .ok (.iload_n 1, 1) := by decide +kernel
theorem dX2_faultByHand_99 : decode cX2_faultByHand 99 = .ok (.iaload, 1) := by decide +kernel
theorem dX2_faultByHand_100 : decode cX2_faultByHand 100 = .ok (.aload_n 0, 1) := by decide +kernel
theorem dX2_faultByHand_101 : decode cX2_faultByHand 101 = .ok (.getfield 23, 3) := by decide +kernel
theorem dX2_faultByHand_104 : decode cX2_faultByHand 104 = .ok (.iload_n 1, 1) := by decide +kernel
theorem dX2_faultByHand_105 : decode cX2_faultByHand 105 = .ok (.iaload, 1) := by decide +kernel
theorem dX2_faultByHand_106 : decode cX2_faultByHand 106 = .ok (.if_icmp .le 5, 3) := by decide +kernel
theorem dX2_faultByHand_109 : decode cX2_faultByHand 109 = .ok (.iconst 3, 1) := by decide +kernel
theorem dX2_faultByHand_110 : decode cX2_faultByHand 110 = .ok (.ireturn, 1) := by decide +kernel
theorem dX2_faultByHand_111 : decode cX2_faultByHand 111 = .ok (.iinc 1 1, 3) := by decide +kernel
theorem dX2_faultByHand_114 : decode cX2_faultByHand 114 = .ok (.goto (-36), 3) := by decide +kernel
theorem dX2_faultByHand_117 : decode cX2_faultByHand 117 = .ok (.iconst 0, 1) := by decide +kernel
theorem dX2_faultByHand_118 : decode cX2_faultByHand 118 = .ok (.ireturn, 1) := by decide +kernel
set_option maxRecDepth 20000 in
theorem ggX2_costByHand_X2_handFrom : GoodIn wsX2_costByHand wsX2_handFrom := goodIn_r _ [12, 5, 2, 7, 13, 14, 11, 15, 39, 40, 41, 42, 43, 44, 45, 46, 47, 48, 49, 50, 51, 52, 53, 54, 55, 56] (by decide +kernel) (by decide +kernel)
set_option maxRecDepth 20000 in
theorem gX2_costByHand_X2_handFrom : GoodIn wsX2_costByHand (wsV RX2 202 RX2 yX2_handFrom wsX2_handFrom) := goodIn_app (goodIn_of _ (by decide +kernel)) ggX2_costByHand_X2_handFrom
set_option maxRecDepth 20000 in
theorem ggX2_costByHand_X2_handTo : GoodIn wsX2_costByHand wsX2_handTo := goodIn_r _ [19, 1, 2, 7, 13, 14, 11, 15, 39, 40, 41, 42, 43, 44, 45, 46, 47, 48, 49, 50, 51, 52, 53, 54, 55, 56] (by decide +kernel) (by decide +kernel)
set_option maxRecDepth 20000 in
theorem gX2_costByHand_X2_handTo : GoodIn wsX2_costByHand (wsV RX2 199 RX2 yX2_handTo wsX2_handTo) := goodIn_app (goodIn_of _ (by decide +kernel)) ggX2_costByHand_X2_handTo
set_option maxRecDepth 20000 in
theorem ggX2_costByHand_X2_wayOf : GoodIn wsX2_costByHand wsX2_wayOf := goodIn_r _ [15] (by decide +kernel) (by decide +kernel)
set_option maxRecDepth 20000 in
theorem gX2_costByHand_X2_wayOf : GoodIn wsX2_costByHand (va_wsS RX2 100 yX2_wayOf wsX2_wayOf) := goodIn_app (goodIn_of _ (by decide +kernel)) ggX2_costByHand_X2_wayOf
set_option maxRecDepth 20000 in
theorem ggX2_costByHand_X2_unitCost : GoodIn wsX2_costByHand wsX2_unitCost := goodIn_r _ [23, 24, 1, 25, 5, 13, 14, 11, 15, 26, 27, 28, 29, 30, 31, 32, 33, 34, 35, 36, 37, 38, 39, 40, 41, 42, 43, 44, 45, 46, 47, 48, 49, 50, 51, 52, 53, 54, 55, 56] (by decide +kernel) (by decide +kernel)
set_option maxRecDepth 20000 in
theorem gX2_costByHand_X2_unitCost : GoodIn wsX2_costByHand (wsV RX2 108 RX2 yX2_unitCost wsX2_unitCost) := goodIn_app (goodIn_of _ (by decide +kernel)) ggX2_costByHand_X2_unitCost
theorem dX2_costByHand_0 : decode cX2_costByHand 0 = .ok (.iconst 0, 1) := by decide +kernel
theorem dX2_costByHand_1 : decode cX2_costByHand 1 = .ok (.istore_n 1, 1) := by decide +kernel
theorem dX2_costByHand_2 : decode cX2_costByHand 2 = .ok (.iconst 0, 1) := by decide +kernel
theorem dX2_costByHand_3 : decode cX2_costByHand 3 = .ok (.istore_n 2, 1) := by decide +kernel
theorem dX2_costByHand_4 : decode cX2_costByHand 4 = .ok (.iload_n 2, 1) := by decide +kernel
theorem dX2_costByHand_5 : decode cX2_costByHand 5 = .ok (.aload_n 0, 1) := by decide +kernel
theorem dX2_costByHand_6 : decode cX2_costByHand 6 = .ok (.getfield 12, 3) := by decide +kernel
theorem dX2_costByHand_9 : decode cX2_costByHand 9 = .ok (.getfield 167, 3) := by decide +kernel
theorem dX2_costByHand_12 : decode cX2_costByHand 12 = .ok (.if_icmp .ge 32, 3) := by decide +kernel
theorem dX2_costByHand_15 : decode cX2_costByHand 15 = .ok (.iload_n 1, 1) := by decide +kernel
theorem dX2_costByHand_16 : decode cX2_costByHand 16 = .ok (.aload_n 0, 1) := by decide +kernel
theorem dX2_costByHand_17 : decode cX2_costByHand 17 = .ok (.getfield 55, 3) := by decide +kernel
theorem dX2_costByHand_20 : decode cX2_costByHand 20 = .ok (.aload_n 0, 1) := by decide +kernel
theorem dX2_costByHand_21 : decode cX2_costByHand 21 = .ok (.getfield 12, 3) := by decide +kernel
theorem dX2_costByHand_24 : decode cX2_costByHand 24 = .ok (.getfield 87, 3) := by decide +kernel
theorem dX2_costByHand_27 : decode cX2_costByHand 27 = .ok (.iload_n 2, 1) := by decide +kernel
theorem dX2_costByHand_28 : decode cX2_costByHand 28 = .ok (.iaload, 1) := by decide +kernel
theorem dX2_costByHand_29 : decode cX2_costByHand 29 = .ok (.aload_n 0, 1) := by decide +kernel
theorem dX2_costByHand_30 : decode cX2_costByHand 30 = .ok (.iload_n 2, 1) := by decide +kernel
theorem dX2_costByHand_31 : decode cX2_costByHand 31 = .ok (.invokevirtual 202, 3) := by decide +kernel
theorem dX2_costByHand_34 : decode cX2_costByHand 34 = .ok (.isub, 1) := by decide +kernel
theorem dX2_costByHand_35 : decode cX2_costByHand 35 = .ok (.imul, 1) := by decide +kernel
theorem dX2_costByHand_36 : decode cX2_costByHand 36 = .ok (.iadd, 1) := by decide +kernel
theorem dX2_costByHand_37 : decode cX2_costByHand 37 = .ok (.istore_n 1, 1) := by decide +kernel
theorem dX2_costByHand_38 : decode cX2_costByHand 38 = .ok (.iinc 2 1, 3) := by decide +kernel
theorem dX2_costByHand_41 : decode cX2_costByHand 41 = .ok (.goto (-37), 3) := by decide +kernel
theorem dX2_costByHand_44 : decode cX2_costByHand 44 = .ok (.iconst 0, 1) := by decide +kernel
theorem dX2_costByHand_45 : decode cX2_costByHand 45 = .ok (.istore_n 2, 1) := by decide +kernel
theorem dX2_costByHand_46 : decode cX2_costByHand 46 = .ok (.iload_n 2, 1) := by decide +kernel
theorem dX2_costByHand_47 : decode cX2_costByHand 47 = .ok (.aload_n 0, 1) := by decide +kernel
theorem dX2_costByHand_48 : decode cX2_costByHand 48 = .ok (.getfield 16, 3) := by decide +kernel
theorem dX2_costByHand_51 : decode cX2_costByHand 51 = .ok (.getfield 167, 3) := by decide +kernel
theorem dX2_costByHand_54 : decode cX2_costByHand 54 = .ok (.if_icmp .ge 32, 3) := by decide +kernel
theorem dX2_costByHand_57 : decode cX2_costByHand 57 = .ok (.iload_n 1, 1) := by decide +kernel
theorem dX2_costByHand_58 : decode cX2_costByHand 58 = .ok (.aload_n 0, 1) := by decide +kernel
theorem dX2_costByHand_59 : decode cX2_costByHand 59 = .ok (.getfield 58, 3) := by decide +kernel
theorem dX2_costByHand_62 : decode cX2_costByHand 62 = .ok (.aload_n 0, 1) := by decide +kernel
theorem dX2_costByHand_63 : decode cX2_costByHand 63 = .ok (.getfield 16, 3) := by decide +kernel
theorem dX2_costByHand_66 : decode cX2_costByHand 66 = .ok (.getfield 87, 3) := by decide +kernel
theorem dX2_costByHand_69 : decode cX2_costByHand 69 = .ok (.iload_n 2, 1) := by decide +kernel
theorem dX2_costByHand_70 : decode cX2_costByHand 70 = .ok (.iaload, 1) := by decide +kernel
theorem dX2_costByHand_71 : decode cX2_costByHand 71 = .ok (.aload_n 0, 1) := by decide +kernel
theorem dX2_costByHand_72 : decode cX2_costByHand 72 = .ok (.iload_n 2, 1) := by decide +kernel
theorem dX2_costByHand_73 : decode cX2_costByHand 73 = .ok (.invokevirtual 199, 3) := by decide +kernel
theorem dX2_costByHand_76 : decode cX2_costByHand 76 = .ok (.isub, 1) := by decide +kernel
theorem dX2_costByHand_77 : decode cX2_costByHand 77 = .ok (.imul, 1) := by decide +kernel
theorem dX2_costByHand_78 : decode cX2_costByHand 78 = .ok (.iadd, 1) := by decide +kernel
theorem dX2_costByHand_79 : decode cX2_costByHand 79 = .ok (.istore_n 1, 1) := by decide +kernel
theorem dX2_costByHand_80 : decode cX2_costByHand 80 = .ok (.iinc 2 1, 3) := by decide +kernel
theorem dX2_costByHand_83 : decode cX2_costByHand 83 = .ok (.goto (-37), 3) := by decide +kernel
theorem dX2_costByHand_86 : decode cX2_costByHand 86 = .ok (.iconst 0, 1) := by decide +kernel
theorem dX2_costByHand_87 : decode cX2_costByHand 87 = .ok (.istore_n 2, 1) := by decide +kernel
theorem dX2_costByHand_88 : decode cX2_costByHand 88 = .ok (.iload_n 2, 1) := by decide +kernel
theorem dX2_costByHand_89 : decode cX2_costByHand 89 = .ok (.aload_n 0, 1) := by decide +kernel
theorem dX2_costByHand_90 : decode cX2_costByHand 90 = .ok (.getfield 12, 3) := by decide +kernel
theorem dX2_costByHand_93 : decode cX2_costByHand 93 = .ok (.getfield 167, 3) := by decide +kernel
theorem dX2_costByHand_96 : decode cX2_costByHand 96 = .ok (.if_icmp .ge 48, 3) := by decide +kernel
theorem dX2_costByHand_99 : decode cX2_costByHand 99 = .ok (.iconst 0, 1) := by decide +kernel
theorem dX2_costByHand_100 : decode cX2_costByHand 100 = .ok (.istore_n 3, 1) := by decide +kernel
theorem dX2_costByHand_101 : decode cX2_costByHand 101 = .ok (.iload_n 3, 1) := by decide +kernel
theorem dX2_costByHand_102 : decode cX2_costByHand 102 = .ok (.aload_n 0, 1) := by decide +kernel
theorem dX2_costByHand_103 : decode cX2_costByHand 103 = .ok (.getfield 16, 3) := by decide +kernel
theorem dX2_costByHand_106 : decode cX2_costByHand 106 = .ok (.getfield 167, 3) := by decide +kernel
theorem dX2_costByHand_109 : decode cX2_costByHand 109 = .ok (.if_icmp .ge 29, 3) := by decide +kernel
theorem dX2_costByHand_112 : decode cX2_costByHand 112 = .ok (.iload_n 1, 1) := by decide +kernel
theorem dX2_costByHand_113 : decode cX2_costByHand 113 = .ok (.aload_n 0, 1) := by decide +kernel
theorem dX2_costByHand_114 : decode cX2_costByHand 114 = .ok (.getfield 26, 3) := by decide +kernel
theorem dX2_costByHand_117 : decode cX2_costByHand 117 = .ok (.iload_n 2, 1) := by decide +kernel
theorem dX2_costByHand_118 : decode cX2_costByHand 118 = .ok (.iload_n 3, 1) := by decide +kernel
theorem dX2_costByHand_119 : decode cX2_costByHand 119 = .ok (.invokestatic 100, 3) := by decide +kernel
theorem dX2_costByHand_122 : decode cX2_costByHand 122 = .ok (.iaload, 1) := by decide +kernel
theorem dX2_costByHand_123 : decode cX2_costByHand 123 = .ok (.aload_n 0, 1) := by decide +kernel
theorem dX2_costByHand_124 : decode cX2_costByHand 124 = .ok (.iload_n 2, 1) := by decide +kernel
theorem dX2_costByHand_125 : decode cX2_costByHand 125 = .ok (.iload_n 3, 1) := by decide +kernel
theorem dX2_costByHand_126 : decode cX2_costByHand 126 = .ok (.invokevirtual 108, 3) := by decide +kernel
theorem dX2_costByHand_129 : decode cX2_costByHand 129 = .ok (.imul, 1) := by decide +kernel
theorem dX2_costByHand_130 : decode cX2_costByHand 130 = .ok (.iadd, 1) := by decide +kernel
theorem dX2_costByHand_131 : decode cX2_costByHand 131 = .ok (.istore_n 1, 1) := by decide +kernel
theorem dX2_costByHand_132 : decode cX2_costByHand 132 = .ok (.iinc 3 1, 3) := by decide +kernel
theorem dX2_costByHand_135 : decode cX2_costByHand 135 = .ok (.goto (-34), 3) := by decide +kernel
theorem dX2_costByHand_138 : decode cX2_costByHand 138 = .ok (.iinc 2 1, 3) := by decide +kernel
theorem dX2_costByHand_141 : decode cX2_costByHand 141 = .ok (.goto (-53), 3) := by decide +kernel
theorem dX2_costByHand_144 : decode cX2_costByHand 144 = .ok (.iload_n 1, 1) := by decide +kernel
theorem dX2_costByHand_145 : decode cX2_costByHand 145 = .ok (.ireturn, 1) := by decide +kernel
