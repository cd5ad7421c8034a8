theorem dX0_init_0 : decode cX0_init 0 = .ok (.aload_n 0, 1) := by decide +kernel
theorem dX0_init_1 : decode cX0_init 1 = .ok (.invokespecial 3, 3) := by decide +kernel
theorem dX0_init_4 : decode cX0_init 4 = .ok (.aload_n 0, 1) := by decide +kernel
theorem dX0_init_5 : decode cX0_init 5 = .ok (.iconst 5, 1) := by decide +kernel
theorem dX0_init_6 : decode cX0_init 6 = .ok (.newarray .int, 2) := by decide +kernel
theorem dX0_init_8 : decode cX0_init 8 = .ok (.putfield 9, 3) := by decide +kernel
theorem dX0_init_11 : decode cX0_init 11 = .ok (.aload_n 0, 1) := by decide +kernel
theorem dX0_init_12 : decode cX0_init 12 = .ok (.iconst 5, 1) := by decide +kernel
theorem dX0_init_13 : decode cX0_init 13 = .ok (.newarray .int, 2) := by decide +kernel
theorem dX0_init_15 : decode cX0_init 15 = .ok (.putfield 15, 3) := by decide +kernel
theorem dX0_init_18 : decode cX0_init 18 = .ok (.aload_n 0, 1) := by decide +kernel
theorem dX0_init_19 : decode cX0_init 19 = .ok (.bipush 25, 2) := by decide +kernel
theorem dX0_init_21 : decode cX0_init 21 = .ok (.newarray .int, 2) := by decide +kernel
theorem dX0_init_23 : decode cX0_init 23 = .ok (.putfield 18, 3) := by decide +kernel
theorem dX0_init_26 : decode cX0_init 26 = .ok (.aload_n 0, 1) := by decide +kernel
theorem dX0_init_27 : decode cX0_init 27 = .ok (.bipush 25, 2) := by decide +kernel
theorem dX0_init_29 : decode cX0_init 29 = .ok (.newarray .int, 2) := by decide +kernel
theorem dX0_init_31 : decode cX0_init 31 = .ok (.putfield 21, 3) := by decide +kernel
theorem dX0_init_34 : decode cX0_init 34 = .ok (.aload_n 0, 1) := by decide +kernel
theorem dX0_init_35 : decode cX0_init 35 = .ok (.iconst 0, 1) := by decide +kernel
theorem dX0_init_36 : decode cX0_init 36 = .ok (.putfield 24, 3) := by decide +kernel
theorem dX0_init_39 : decode cX0_init 39 = .ok (.aload_n 0, 1) := by decide +kernel
theorem dX0_init_40 : decode cX0_init 40 = .ok (.bipush 25, 2) := by decide +kernel
theorem dX0_init_42 : decode cX0_init 42 = .ok (.newarray .int, 2) := by decide +kernel
theorem dX0_init_44 : decode cX0_init 44 = .ok (.putfield 28, 3) := by decide +kernel
theorem dX0_init_47 : decode cX0_init 47 = .ok (.aload_n 0, 1) := by decide +kernel
theorem dX0_init_48 : decode cX0_init 48 = .ok (.bipush 25, 2) := by decide +kernel
theorem dX0_init_50 : decode cX0_init 50 = .ok (.newarray .int, 2) := by decide +kernel
theorem dX0_init_52 : decode cX0_init 52 = .ok (.putfield 31, 3) := by decide +kernel
theorem dX0_init_55 : decode cX0_init 55 = .ok (.aload_n 0, 1) := by decide +kernel
theorem dX0_init_56 : decode cX0_init 56 = .ok (.bipush 25, 2) := by decide +kernel
theorem dX0_init_58 : decode cX0_init 58 = .ok (.newarray .long, 2) := by decide +kernel
theorem dX0_init_60 : decode cX0_init 60 = .ok (.putfield 34, 3) := by decide +kernel
theorem dX0_init_63 : decode cX0_init 63 = .ok (.aload_n 0, 1) := by decide +kernel
theorem dX0_init_64 : decode cX0_init 64 = .ok (.iconst 5, 1) := by decide +kernel
theorem dX0_init_65 : decode cX0_init 65 = .ok (.newarray .long, 2) := by decide +kernel
theorem dX0_init_67 : decode cX0_init 67 = .ok (.putfield 38, 3) := by decide +kernel
theorem dX0_init_70 : decode cX0_init 70 = .ok (.aload_n 0, 1) := by decide +kernel
theorem dX0_init_71 : decode cX0_init 71 = .ok (.iconst 5, 1) := by decide +kernel
theorem dX0_init_72 : decode cX0_init 72 = .ok (.newarray .long, 2) := by decide +kernel
theorem dX0_init_74 : decode cX0_init 74 = .ok (.putfield 41, 3) := by decide +kernel
theorem dX0_init_77 : decode cX0_init 77 = .ok (.aload_n 0, 1) := by decide +kernel
theorem dX0_init_78 : decode cX0_init 78 = .ok (.iconst 5, 1) := by decide +kernel
theorem dX0_init_79 : decode cX0_init 79 = .ok (.newarray .int, 2) := by decide +kernel
theorem dX0_init_81 : decode cX0_init 81 = .ok (.putfield 44, 3) := by decide +kernel
theorem dX0_init_84 : decode cX0_init 84 = .ok (.aload_n 0, 1) := by decide +kernel
theorem dX0_init_85 : decode cX0_init 85 = .ok (.iconst 5, 1) := by decide +kernel
theorem dX0_init_86 : decode cX0_init 86 = .ok (.newarray .int, 2) := by decide +kernel
theorem dX0_init_88 : decode cX0_init 88 = .ok (.putfield 47, 3) := by decide +kernel
theorem dX0_init_91 : decode cX0_init 91 = .ok (.aload_n 0, 1) := by decide +kernel
theorem dX0_init_92 : decode cX0_init 92 = .ok (.iconst 0, 1) := by decide +kernel
theorem dX0_init_93 : decode cX0_init 93 = .ok (.putfield 50, 3) := by decide +kernel
theorem dX0_init_96 : decode cX0_init 96 = .ok (.aload_n 0, 1) := by decide +kernel
theorem dX0_init_97 : decode cX0_init 97 = .ok (.iconst 0, 1) := by decide +kernel
theorem dX0_init_98 : decode cX0_init 98 = .ok (.putfield 53, 3) := by decide +kernel
theorem dX0_init_101 : decode cX0_init 101 = .ok (.aload_n 0, 1) := by decide +kernel
theorem dX0_init_102 : decode cX0_init 102 = .ok (.iconst 0, 1) := by decide +kernel
theorem dX0_init_103 : decode cX0_init 103 = .ok (.putfield 56, 3) := by decide +kernel
theorem dX0_init_106 : decode cX0_init 106 = .ok (.return_, 1) := by decide +kernel
set_option maxRecDepth 20000 in
theorem ggX0_begin_J7_fill_53178 : GoodIn wsX0_begin wsJ7_fill_53178 := goodIn_r _ [12] (by decide +kernel) (by decide +kernel)
set_option maxRecDepth 20000 in
theorem gX0_begin_J7_fill_53178 : GoodIn wsX0_begin (va_wsS RX0 59 yJ7_fill_53178 wsJ7_fill_53178) := goodIn_app (goodIn_of _ (by decide +kernel)) ggX0_begin_J7_fill_53178
theorem dX0_begin_0 : decode cX0_begin 0 = .ok (.aload_n 0, 1) := by decide +kernel
theorem dX0_begin_1 : decode cX0_begin 1 = .ok (.getfield 9, 3) := by decide +kernel
theorem dX0_begin_4 : decode cX0_begin 4 = .ok (.iconst 0, 1) := by decide +kernel
theorem dX0_begin_5 : decode cX0_begin 5 = .ok (.invokestatic 59, 3) := by decide +kernel
theorem dX0_begin_8 : decode cX0_begin 8 = .ok (.aload_n 0, 1) := by decide +kernel
theorem dX0_begin_9 : decode cX0_begin 9 = .ok (.getfield 15, 3) := by decide +kernel
theorem dX0_begin_12 : decode cX0_begin 12 = .ok (.iconst 0, 1) := by decide +kernel
theorem dX0_begin_13 : decode cX0_begin 13 = .ok (.invokestatic 59, 3) := by decide +kernel
theorem dX0_begin_16 : decode cX0_begin 16 = .ok (.aload_n 0, 1) := by decide +kernel
theorem dX0_begin_17 : decode cX0_begin 17 = .ok (.getfield 18, 3) := by decide +kernel
theorem dX0_begin_20 : decode cX0_begin 20 = .ok (.iconst 0, 1) := by decide +kernel
theorem dX0_begin_21 : decode cX0_begin 21 = .ok (.invokestatic 59, 3) := by decide +kernel
theorem dX0_begin_24 : decode cX0_begin 24 = .ok (.aload_n 0, 1) := by decide +kernel
theorem dX0_begin_25 : decode cX0_begin 25 = .ok (.getfield 21, 3) := by decide +kernel
theorem dX0_begin_28 : decode cX0_begin 28 = .ok (.iconst 0, 1) := by decide +kernel
theorem dX0_begin_29 : decode cX0_begin 29 = .ok (.invokestatic 59, 3) := by decide +kernel
theorem dX0_begin_32 : decode cX0_begin 32 = .ok (.aload_n 0, 1) := by decide +kernel
theorem dX0_begin_33 : decode cX0_begin 33 = .ok (.iconst 0, 1) := by decide +kernel
theorem dX0_begin_34 : decode cX0_begin 34 = .ok (.putfield 24, 3) := by decide +kernel
theorem dX0_begin_37 : decode cX0_begin 37 = .ok (.aload_n 0, 1) := by decide +kernel
theorem dX0_begin_38 : decode cX0_begin 38 = .ok (.iconst 0, 1) := by decide +kernel
theorem dX0_begin_39 : decode cX0_begin 39 = .ok (.putfield 50, 3) := by decide +kernel
theorem dX0_begin_42 : decode cX0_begin 42 = .ok (.aload_n 0, 1) := by decide +kernel
theorem dX0_begin_43 : decode cX0_begin 43 = .ok (.iload_n 1, 1) := by decide +kernel
theorem dX0_begin_44 : decode cX0_begin 44 = .ok (.putfield 53, 3) := by decide +kernel
theorem dX0_begin_47 : decode cX0_begin 47 = .ok (.aload_n 0, 1) := by decide +kernel
theorem dX0_begin_48 : decode cX0_begin 48 = .ok (.iload_n 2, 1) := by decide +kernel
theorem dX0_begin_49 : decode cX0_begin 49 = .ok (.putfield 56, 3) := by decide +kernel
theorem dX0_begin_52 : decode cX0_begin 52 = .ok (.return_, 1) := by decide +kernel
theorem dX0_letStay_0 : decode cX0_letStay 0 = .ok (.aload_n 0, 1) := by decide +kernel
theorem dX0_letStay_1 : decode cX0_letStay 1 = .ok (.getfield 9, 3) := by decide +kernel
theorem dX0_letStay_4 : decode cX0_letStay 4 = .ok (.iload_n 1, 1) := by decide +kernel
theorem dX0_letStay_5 : decode cX0_letStay 5 = .ok (.dup2, 1) := by decide +kernel
theorem dX0_letStay_6 : decode cX0_letStay 6 = .ok (.iaload, 1) := by decide +kernel
theorem dX0_letStay_7 : decode cX0_letStay 7 = .ok (.iload_n 2, 1) := by decide +kernel
theorem dX0_letStay_8 : decode cX0_letStay 8 = .ok (.iadd, 1) := by decide +kernel
theorem dX0_letStay_9 : decode cX0_letStay 9 = .ok (.iastore, 1) := by decide +kernel
theorem dX0_letStay_10 : decode cX0_letStay 10 = .ok (.aload_n 0, 1) := by decide +kernel
theorem dX0_letStay_11 : decode cX0_letStay 11 = .ok (.dup, 1) := by decide +kernel
theorem dX0_letStay_12 : decode cX0_letStay 12 = .ok (.getfield 24, 3) := by decide +kernel
theorem dX0_letStay_15 : decode cX0_letStay 15 = .ok (.iload_n 2, 1) := by decide +kernel
theorem dX0_letStay_16 : decode cX0_letStay 16 = .ok (.aload_n 0, 1) := by decide +kernel
theorem dX0_letStay_17 : decode cX0_letStay 17 = .ok (.getfield 53, 3) := by decide +kernel
theorem dX0_letStay_20 : decode cX0_letStay 20 = .ok (.imul, 1) := by decide +kernel
theorem dX0_letStay_21 : decode cX0_letStay 21 = .ok (.iadd, 1) := by decide +kernel
theorem dX0_letStay_22 : decode cX0_letStay 22 = .ok (.putfield 24, 3) := by decide +kernel
theorem dX0_letStay_25 : decode cX0_letStay 25 = .ok (.return_, 1) := by decide +kernel
theorem dX0_letLack_0 : decode cX0_letLack 0 = .ok (.aload_n 0, 1) := by decide +kernel
theorem dX0_letLack_1 : decode cX0_letLack 1 = .ok (.getfield 15, 3) := by decide +kernel
theorem dX0_letLack_4 : decode cX0_letLack 4 = .ok (.iload_n 1, 1) := by decide +kernel
theorem dX0_letLack_5 : decode cX0_letLack 5 = .ok (.dup2, 1) := by decide +kernel
theorem dX0_letLack_6 : decode cX0_letLack 6 = .ok (.iaload, 1) := by decide +kernel
theorem dX0_letLack_7 : decode cX0_letLack 7 = .ok (.iload_n 2, 1) := by decide +kernel
theorem dX0_letLack_8 : decode cX0_letLack 8 = .ok (.iadd, 1) := by decide +kernel
theorem dX0_letLack_9 : decode cX0_letLack 9 = .ok (.iastore, 1) := by decide +kernel
theorem dX0_letLack_10 : decode cX0_letLack 10 = .ok (.aload_n 0, 1) := by decide +kernel
theorem dX0_letLack_11 : decode cX0_letLack 11 = .ok (.dup, 1) := by decide +kernel
theorem dX0_letLack_12 : decode cX0_letLack 12 = .ok (.getfield 24, 3) := by decide +kernel
theorem dX0_letLack_15 : decode cX0_letLack 15 = .ok (.iload_n 2, 1) := by decide +kernel
theorem dX0_letLack_16 : decode cX0_letLack 16 = .ok (.aload_n 0, 1) := by decide +kernel
theorem dX0_letLack_17 : decode cX0_letLack 17 = .ok (.getfield 56, 3) := by decide +kernel
theorem dX0_letLack_20 : decode cX0_letLack 20 = .ok (.imul, 1) := by decide +kernel
theorem dX0_letLack_21 : decode cX0_letLack 21 = .ok (.iadd, 1) := by decide +kernel
theorem dX0_letLack_22 : decode cX0_letLack 22 = .ok (.putfield 24, 3) := by decide +kernel
theorem dX0_letLack_25 : decode cX0_letLack 25 = .ok (.return_, 1) := by decide +kernel
theorem dX0_open_0 : decode cX0_open 0 = .ok (.iload_n 3, 1) := by decide +kernel
theorem dX0_open_1 : decode cX0_open 1 = .ok (.ifCond .eq 32, 3) := by decide +kernel
theorem dX0_open_4 : decode cX0_open 4 = .ok (.aload_n 0, 1) := by decide +kernel
theorem dX0_open_5 : decode cX0_open 5 = .ok (.getfield 50, 3) := by decide +kernel
theorem dX0_open_8 : decode cX0_open 8 = .ok (.bipush 25, 2) := by decide +kernel
theorem dX0_open_10 : decode cX0_open 10 = .ok (.if_icmp .ge 23, 3) := by decide +kernel
theorem dX0_open_13 : decode cX0_open 13 = .ok (.aload_n 0, 1) := by decide +kernel
theorem dX0_open_14 : decode cX0_open 14 = .ok (.getfield 28, 3) := by decide +kernel
theorem dX0_open_17 : decode cX0_open 17 = .ok (.aload_n 0, 1) := by decide +kernel
theorem dX0_open_18 : decode cX0_open 18 = .ok (.getfield 50, 3) := by decide +kernel
theorem dX0_open_21 : decode cX0_open 21 = .ok (.iload_n 1, 1) := by decide +kernel
theorem dX0_open_22 : decode cX0_open 22 = .ok (.iastore, 1) := by decide +kernel
theorem dX0_open_23 : decode cX0_open 23 = .ok (.aload_n 0, 1) := by decide +kernel
theorem dX0_open_24 : decode cX0_open 24 = .ok (.dup, 1) := by decide +kernel
theorem dX0_open_25 : decode cX0_open 25 = .ok (.getfield 50, 3) := by decide +kernel
theorem dX0_open_28 : decode cX0_open 28 = .ok (.iconst 1, 1) := by decide +kernel
theorem dX0_open_29 : decode cX0_open 29 = .ok (.iadd, 1) := by decide +kernel
theorem dX0_open_30 : decode cX0_open 30 = .ok (.putfield 50, 3) := by decide +kernel
theorem dX0_open_33 : decode cX0_open 33 = .ok (.aload_n 0, 1) := by decide +kernel
theorem dX0_open_34 : decode cX0_open 34 = .ok (.getfield 21, 3) := by decide +kernel
theorem dX0_open_37 : decode cX0_open 37 = .ok (.iload_n 1, 1) := by decide +kernel
theorem dX0_open_38 : decode cX0_open 38 = .ok (.iload_n 3, 1) := by decide +kernel
theorem dX0_open_39 : decode cX0_open 39 = .ok (.iconst (-1), 1) := by decide +kernel
theorem dX0_open_40 : decode cX0_open 40 = .ok (.if_icmp .ne 8, 3) := by decide +kernel
theorem dX0_open_43 : decode cX0_open 43 = .ok (.bipush 20, 2) := by decide +kernel
theorem dX0_open_45 : decode cX0_open 45 = .ok (.goto 4, 3) := by decide +kernel
theorem dX0_open_48 : decode cX0_open 48 = .ok (.iload_n 3, 1) := by decide +kernel
theorem dX0_open_49 : decode cX0_open 49 = .ok (.iastore, 1) := by decide +kernel
theorem dX0_open_50 : decode cX0_open 50 = .ok (.aload_n 0, 1) := by decide +kernel
theorem dX0_open_51 : decode cX0_open 51 = .ok (.getfield 31, 3) := by decide +kernel
theorem dX0_open_54 : decode cX0_open 54 = .ok (.iload_n 1, 1) := by decide +kernel
theorem dX0_open_55 : decode cX0_open 55 = .ok (.iload_n 2, 1) := by decide +kernel
theorem dX0_open_56 : decode cX0_open 56 = .ok (.iastore, 1) := by decide +kernel
theorem dX0_open_57 : decode cX0_open 57 = .ok (.aload_n 0, 1) := by decide +kernel
theorem dX0_open_58 : decode cX0_open 58 = .ok (.getfield 34, 3) := by decide +kernel
theorem dX0_open_61 : decode cX0_open 61 = .ok (.iload_n 1, 1) := by decide +kernel
theorem dX0_open_62 : decode cX0_open 62 = .ok (.iload_n 2, 1) := by decide +kernel
theorem dX0_open_63 : decode cX0_open 63 = .ok (.i2l, 1) := by decide +kernel
theorem dX0_open_64 : decode cX0_open 64 = .ok (.bipush 25, 2) := by decide +kernel
theorem dX0_open_66 : decode cX0_open 66 = .ok (.lshl, 1) := by decide +kernel
theorem dX0_open_67 : decode cX0_open 67 = .ok (.lconst 1, 1) := by decide +kernel
theorem dX0_open_68 : decode cX0_open 68 = .ok (.bipush 24, 2) := by decide +kernel
theorem dX0_open_70 : decode cX0_open 70 = .ok (.iload_n 1, 1) := by decide +kernel
theorem dX0_open_71 : decode cX0_open 71 = .ok (.isub, 1) := by decide +kernel
theorem dX0_open_72 : decode cX0_open 72 = .ok (.lshl, 1) := by decide +kernel
theorem dX0_open_73 : decode cX0_open 73 = .ok (.lsub, 1) := by decide +kernel
theorem dX0_open_74 : decode cX0_open 74 = .ok (.lastore, 1) := by decide +kernel
theorem dX0_open_75 : decode cX0_open 75 = .ok (.return_, 1) := by decide +kernel
set_option maxRecDepth 20000 in
theorem ggX0_improve_X0_findPaths : GoodIn wsX0_improve wsX0_findPaths := goodIn_r _ [5, 6, 7, 8, 9, 10, 11, 12, 13, 14, 15, 16, 17, 18, 19, 20, 21, 4, 22, 23, 24, 25, 26, 27, 28, 29, 30, 31, 60, 61, 62, 63, 64, 65, 66, 67, 68, 69, 70, 71, 72, 73, 74] (by decide +kernel) (by decide +kernel)
set_option maxRecDepth 20000 in
theorem gX0_improve_X0_findPaths : GoodIn wsX0_improve (wsV RX0 65 RX0 yX0_findPaths wsX0_findPaths) := goodIn_app (goodIn_of _ (by decide +kernel)) ggX0_improve_X0_findPaths
set_option maxRecDepth 20000 in
theorem ggX0_improve_X0_nearestHole : GoodIn wsX0_improve wsX0_nearestHole := goodIn_r _ [35, 36, 37, 38, 10, 60, 61, 62, 63, 64, 65, 66, 67, 68, 69, 70, 71, 72, 73, 74] (by decide +kernel) (by decide +kernel)
set_option maxRecDepth 20000 in
theorem gX0_improve_X0_nearestHole : GoodIn wsX0_improve (wsV RX0 68 RX0 yX0_nearestHole wsX0_nearestHole) := goodIn_app (goodIn_of _ (by decide +kernel)) ggX0_improve_X0_nearestHole
set_option maxRecDepth 20000 in
theorem ggX0_improve_X0_roomOnPath : GoodIn wsX0_improve wsX0_roomOnPath := goodIn_r _ [42, 38, 11, 25, 43, 44, 45, 46, 9, 7, 31, 47, 48, 49, 60, 61, 62, 63, 64, 65, 66, 67, 68, 69, 70, 71, 72, 73, 74] (by decide +kernel) (by decide +kernel)
set_option maxRecDepth 20000 in
theorem gX0_improve_X0_roomOnPath : GoodIn wsX0_improve (wsV RX0 72 RX0 yX0_roomOnPath wsX0_roomOnPath) := goodIn_app (goodIn_of _ (by decide +kernel)) ggX0_improve_X0_roomOnPath
set_option maxRecDepth 20000 in
theorem ggX0_improve_X0_carryAlongPath : GoodIn wsX0_improve wsX0_carryAlongPath := goodIn_r _ [53, 11, 9, 54, 55, 56, 4, 57, 31, 25, 7, 38, 58, 59, 36, 37, 47, 48, 49, 60, 61, 62, 63, 64, 65, 66, 67, 68, 69, 70, 71, 72, 73, 74] (by decide +kernel) (by decide +kernel)
set_option maxRecDepth 20000 in
theorem gX0_improve_X0_carryAlongPath : GoodIn wsX0_improve (wsV RX0 76 RX0 yX0_carryAlongPath wsX0_carryAlongPath) := goodIn_app (goodIn_of _ (by decide +kernel)) ggX0_improve_X0_carryAlongPath
theorem dX0_improve_0 : decode cX0_improve 0 = .ok (.iconst 1, 1) := by decide +kernel
theorem dX0_improve_1 : decode cX0_improve 1 = .ok (.istore_n 1, 1) := by decide +kernel
theorem dX0_improve_2 : decode cX0_improve 2 = .ok (.iconst 0, 1) := by decide +kernel
theorem dX0_improve_3 : decode cX0_improve 3 = .ok (.istore_n 2, 1) := by decide +kernel
theorem dX0_improve_4 : decode cX0_improve 4 = .ok (.iload_n 1, 1) := by decide +kernel
theorem dX0_improve_5 : decode cX0_improve 5 = .ok (.ifCond .eq 48, 3) := by decide +kernel
theorem dX0_improve_8 : decode cX0_improve 8 = .ok (.iload_n 2, 1) := by decide +kernel
theorem dX0_improve_9 : decode cX0_improve 9 = .ok (.bipush 101, 2) := by decide +kernel
theorem dX0_improve_11 : decode cX0_improve 11 = .ok (.if_icmp .gt 42, 3) := by decide +kernel
theorem dX0_improve_14 : decode cX0_improve 14 = .ok (.aload_n 0, 1) := by decide +kernel
theorem dX0_improve_15 : decode cX0_improve 15 = .ok (.invokevirtual 65, 3) := by decide +kernel
theorem dX0_improve_18 : decode cX0_improve 18 = .ok (.aload_n 0, 1) := by decide +kernel
theorem dX0_improve_19 : decode cX0_improve 19 = .ok (.invokevirtual 68, 3) := by decide +kernel
theorem dX0_improve_22 : decode cX0_improve 22 = .ok (.istore_n 3, 1) := by decide +kernel
theorem dX0_improve_23 : decode cX0_improve 23 = .ok (.iload_n 3, 1) := by decide +kernel
theorem dX0_improve_24 : decode cX0_improve 24 = .ok (.iconst (-1), 1) := by decide +kernel
theorem dX0_improve_25 : decode cX0_improve 25 = .ok (.if_icmp .eq 20, 3) := by decide +kernel
theorem dX0_improve_28 : decode cX0_improve 28 = .ok (.aload_n 0, 1) := by decide +kernel
theorem dX0_improve_29 : decode cX0_improve 29 = .ok (.iload_n 3, 1) := by decide +kernel
theorem dX0_improve_30 : decode cX0_improve 30 = .ok (.aload_n 0, 1) := by decide +kernel
theorem dX0_improve_31 : decode cX0_improve 31 = .ok (.iload_n 3, 1) := by decide +kernel
theorem dX0_improve_32 : decode cX0_improve 32 = .ok (.invokevirtual 72, 3) := by decide +kernel
theorem dX0_improve_35 : decode cX0_improve 35 = .ok (.invokevirtual 76, 3) := by decide +kernel
theorem dX0_improve_38 : decode cX0_improve 38 = .ok (.ifCond .eq 7, 3) := by decide +kernel
theorem dX0_improve_41 : decode cX0_improve 41 = .ok (.iconst 1, 1) := by decide +kernel
theorem dX0_improve_42 : decode cX0_improve 42 = .ok (.goto 4, 3) := by decide +kernel
theorem dX0_improve_45 : decode cX0_improve 45 = .ok (.iconst 0, 1) := by decide +kernel
theorem dX0_improve_46 : decode cX0_improve 46 = .ok (.istore_n 1, 1) := by decide +kernel
theorem dX0_improve_47 : decode cX0_improve 47 = .ok (.iinc 2 1, 3) := by decide +kernel
theorem dX0_improve_50 : decode cX0_improve 50 = .ok (.goto (-46), 3) := by decide +kernel
theorem dX0_improve_53 : decode cX0_improve 53 = .ok (.return_, 1) := by decide +kernel
set_option maxRecDepth 20000 in
theorem ggX0_turnToNext_X0_move : GoodIn wsX0_turnToNext wsX0_move := goodIn_r _ [11, 6, 3, 4, 5, 12, 13, 14, 15, 16, 17, 18, 19, 20, 21, 22, 23, 24, 25, 26, 27, 28, 29, 30, 31, 32, 33] (by decide +kernel) (by decide +kernel)
set_option maxRecDepth 20000 in
theorem gX0_turnToNext_X0_move : GoodIn wsX0_turnToNext (wsV RX0 80 RX0 yX0_move wsX0_move) := goodIn_app (goodIn_of _ (by decide +kernel)) ggX0_turnToNext_X0_move
theorem dX0_turnToNext_0 : decode cX0_turnToNext 0 = .ok (.aload_n 0, 1) := by decide +kernel
theorem dX0_turnToNext_1 : decode cX0_turnToNext 1 = .ok (.getfield 50, 3) := by decide +kernel
theorem dX0_turnToNext_4 : decode cX0_turnToNext 4 = .ok (.iconst 1, 1) := by decide +kernel
theorem dX0_turnToNext_5 : decode cX0_turnToNext 5 = .ok (.isub, 1) := by decide +kernel
theorem dX0_turnToNext_6 : decode cX0_turnToNext 6 = .ok (.istore_n 1, 1) := by decide +kernel
theorem dX0_turnToNext_7 : decode cX0_turnToNext 7 = .ok (.iload_n 1, 1) := by decide +kernel
theorem dX0_turnToNext_8 : decode cX0_turnToNext 8 = .ok (.ifCond .lt 77, 3) := by decide +kernel
theorem dX0_turnToNext_11 : decode cX0_turnToNext 11 = .ok (.aload_n 0, 1) := by decide +kernel
theorem dX0_turnToNext_12 : decode cX0_turnToNext 12 = .ok (.getfield 28, 3) := by decide +kernel
theorem dX0_turnToNext_15 : decode cX0_turnToNext 15 = .ok (.iload_n 1, 1) := by decide +kernel
theorem dX0_turnToNext_16 : decode cX0_turnToNext 16 = .ok (.iaload, 1) := by decide +kernel
theorem dX0_turnToNext_17 : decode cX0_turnToNext 17 = .ok (.istore_n 2, 1) := by decide +kernel
theorem dX0_turnToNext_18 : decode cX0_turnToNext 18 = .ok (.iload_n 2, 1) := by decide +kernel
theorem dX0_turnToNext_19 : decode cX0_turnToNext 19 = .ok (.iconst 5, 1) := by decide +kernel
theorem dX0_turnToNext_20 : decode cX0_turnToNext 20 = .ok (.idiv, 1) := by decide +kernel
theorem dX0_turnToNext_21 : decode cX0_turnToNext 21 = .ok (.istore_n 3, 1) := by decide +kernel
theorem dX0_turnToNext_22 : decode cX0_turnToNext 22 = .ok (.iload_n 2, 1) := by decide +kernel
theorem dX0_turnToNext_23 : decode cX0_turnToNext 23 = .ok (.iconst 5, 1) := by decide +kernel
theorem dX0_turnToNext_24 : decode cX0_turnToNext 24 = .ok (.irem, 1) := by decide +kernel
theorem dX0_turnToNext_25 : decode cX0_turnToNext 25 = .ok (.istore 4, 2) := by decide +kernel
theorem dX0_turnToNext_27 : decode cX0_turnToNext 27 = .ok (.aload_n 0, 1) := by decide +kernel
theorem dX0_turnToNext_28 : decode cX0_turnToNext 28 = .ok (.getfield 21, 3) := by decide +kernel
theorem dX0_turnToNext_31 : decode cX0_turnToNext 31 = .ok (.iload_n 2, 1) := by decide +kernel
theorem dX0_turnToNext_32 : decode cX0_turnToNext 32 = .ok (.iaload, 1) := by decide +kernel
theorem dX0_turnToNext_33 : decode cX0_turnToNext 33 = .ok (.ifCond .le 32, 3) := by decide +kernel
theorem dX0_turnToNext_36 : decode cX0_turnToNext 36 = .ok (.aload_n 0, 1) := by decide +kernel
theorem dX0_turnToNext_37 : decode cX0_turnToNext 37 = .ok (.getfield 9, 3) := by decide +kernel
theorem dX0_turnToNext_40 : decode cX0_turnToNext 40 = .ok (.iload_n 3, 1) := by decide +kernel
theorem dX0_turnToNext_41 : decode cX0_turnToNext 41 = .ok (.iaload, 1) := by decide +kernel
theorem dX0_turnToNext_42 : decode cX0_turnToNext 42 = .ok (.ifCond .le 23, 3) := by decide +kernel
theorem dX0_turnToNext_45 : decode cX0_turnToNext 45 = .ok (.aload_n 0, 1) := by decide +kernel
theorem dX0_turnToNext_46 : decode cX0_turnToNext 46 = .ok (.getfield 15, 3) := by decide +kernel
theorem dX0_turnToNext_49 : decode cX0_turnToNext 49 = .ok (.iload 4, 2) := by decide +kernel
theorem dX0_turnToNext_51 : decode cX0_turnToNext 51 = .ok (.iaload, 1) := by decide +kernel
theorem dX0_turnToNext_52 : decode cX0_turnToNext 52 = .ok (.ifCond .le 13, 3) := by decide +kernel
theorem dX0_turnToNext_55 : decode cX0_turnToNext 55 = .ok (.aload_n 0, 1) := by decide +kernel
theorem dX0_turnToNext_56 : decode cX0_turnToNext 56 = .ok (.iload_n 3, 1) := by decide +kernel
theorem dX0_turnToNext_57 : decode cX0_turnToNext 57 = .ok (.iload 4, 2) := by decide +kernel
theorem dX0_turnToNext_59 : decode cX0_turnToNext 59 = .ok (.iconst 1, 1) := by decide +kernel
theorem dX0_turnToNext_60 : decode cX0_turnToNext 60 = .ok (.invokevirtual 80, 3) := by decide +kernel
theorem dX0_turnToNext_63 : decode cX0_turnToNext 63 = .ok (.iconst 1, 1) := by decide +kernel
theorem dX0_turnToNext_64 : decode cX0_turnToNext 64 = .ok (.ireturn, 1) := by decide +kernel
theorem dX0_turnToNext_65 : decode cX0_turnToNext 65 = .ok (.aload_n 0, 1) := by decide +kernel
theorem dX0_turnToNext_66 : decode cX0_turnToNext 66 = .ok (.iload_n 3, 1) := by decide +kernel
theorem dX0_turnToNext_67 : decode cX0_turnToNext 67 = .ok (.iload 4, 2) := by decide +kernel
theorem dX0_turnToNext_69 : decode cX0_turnToNext 69 = .ok (.aload_n 0, 1) := by decide +kernel
theorem dX0_turnToNext_70 : decode cX0_turnToNext 70 = .ok (.getfield 18, 3) := by decide +kernel
theorem dX0_turnToNext_73 : decode cX0_turnToNext 73 = .ok (.iload_n 2, 1) := by decide +kernel
theorem dX0_turnToNext_74 : decode cX0_turnToNext 74 = .ok (.iaload, 1) := by decide +kernel
theorem dX0_turnToNext_75 : decode cX0_turnToNext 75 = .ok (.ineg, 1) := by decide +kernel
theorem dX0_turnToNext_76 : decode cX0_turnToNext 76 = .ok (.invokevirtual 80, 3) := by decide +kernel
theorem dX0_turnToNext_79 : decode cX0_turnToNext 79 = .ok (.iinc 1 (-1), 3) := by decide +kernel
theorem dX0_turnToNext_82 : decode cX0_turnToNext 82 = .ok (.goto (-75), 3) := by decide +kernel
theorem dX0_turnToNext_85 : decode cX0_turnToNext 85 = .ok (.iconst 0, 1) := by decide +kernel
theorem dX0_turnToNext_86 : decode cX0_turnToNext 86 = .ok (.ireturn, 1) := by decide +kernel
set_option maxRecDepth 20000 in
theorem ggX0_move_X2_wayOf : GoodIn wsX0_move wsX2_wayOf := goodIn_r _ [11] (by decide +kernel) (by decide +kernel)
set_option maxRecDepth 20000 in
theorem gX0_move_X2_wayOf_n84 : GoodIn wsX0_move (wsX2_wayOf) := ggX0_move_X2_wayOf
theorem dX0_move_0 : decode cX0_move 0 = .ok (.iload_n 1, 1) := by decide +kernel
theorem dX0_move_1 : decode cX0_move 1 = .ok (.iload_n 2, 1) := by decide +kernel
theorem dX0_move_2 : decode cX0_move 2 = .ok (.invokestatic 84, 3) := by decide +kernel
theorem dX0_move_5 : decode cX0_move 5 = .ok (.istore 4, 2) := by decide +kernel
theorem dX0_move_7 : decode cX0_move 7 = .ok (.aload_n 0, 1) := by decide +kernel
theorem dX0_move_8 : decode cX0_move 8 = .ok (.getfield 18, 3) := by decide +kernel
theorem dX0_move_11 : decode cX0_move 11 = .ok (.iload 4, 2) := by decide +kernel
theorem dX0_move_13 : decode cX0_move 13 = .ok (.dup2, 1) := by decide +kernel
theorem dX0_move_14 : decode cX0_move 14 = .ok (.iaload, 1) := by decide +kernel
theorem dX0_move_15 : decode cX0_move 15 = .ok (.iload_n 3, 1) := by decide +kernel
theorem dX0_move_16 : decode cX0_move 16 = .ok (.iadd, 1) := by decide +kernel
theorem dX0_move_17 : decode cX0_move 17 = .ok (.iastore, 1) := by decide +kernel
theorem dX0_move_18 : decode cX0_move 18 = .ok (.aload_n 0, 1) := by decide +kernel
theorem dX0_move_19 : decode cX0_move 19 = .ok (.getfield 21, 3) := by decide +kernel
theorem dX0_move_22 : decode cX0_move 22 = .ok (.iload 4, 2) := by decide +kernel
theorem dX0_move_24 : decode cX0_move 24 = .ok (.dup2, 1) := by decide +kernel
theorem dX0_move_25 : decode cX0_move 25 = .ok (.iaload, 1) := by decide +kernel
theorem dX0_move_26 : decode cX0_move 26 = .ok (.iload_n 3, 1) := by decide +kernel
theorem dX0_move_27 : decode cX0_move 27 = .ok (.isub, 1) := by decide +kernel
theorem dX0_move_28 : decode cX0_move 28 = .ok (.iastore, 1) := by decide +kernel
theorem dX0_move_29 : decode cX0_move 29 = .ok (.aload_n 0, 1) := by decide +kernel
theorem dX0_move_30 : decode cX0_move 30 = .ok (.getfield 9, 3) := by decide +kernel
theorem dX0_move_33 : decode cX0_move 33 = .ok (.iload_n 1, 1) := by decide +kernel
theorem dX0_move_34 : decode cX0_move 34 = .ok (.dup2, 1) := by decide +kernel
theorem dX0_move_35 : decode cX0_move 35 = .ok (.iaload, 1) := by decide +kernel
theorem dX0_move_36 : decode cX0_move 36 = .ok (.iload_n 3, 1) := by decide +kernel
theorem dX0_move_37 : decode cX0_move 37 = .ok (.isub, 1) := by decide +kernel
theorem dX0_move_38 : decode cX0_move 38 = .ok (.iastore, 1) := by decide +kernel
theorem dX0_move_39 : decode cX0_move 39 = .ok (.aload_n 0, 1) := by decide +kernel
theorem dX0_move_40 : decode cX0_move 40 = .ok (.getfield 15, 3) := by decide +kernel
theorem dX0_move_43 : decode cX0_move 43 = .ok (.iload_n 2, 1) := by decide +kernel
theorem dX0_move_44 : decode cX0_move 44 = .ok (.dup2, 1) := by decide +kernel
theorem dX0_move_45 : decode cX0_move 45 = .ok (.iaload, 1) := by decide +kernel
theorem dX0_move_46 : decode cX0_move 46 = .ok (.iload_n 3, 1) := by decide +kernel
theorem dX0_move_47 : decode cX0_move 47 = .ok (.isub, 1) := by decide +kernel
theorem dX0_move_48 : decode cX0_move 48 = .ok (.iastore, 1) := by decide +kernel
theorem dX0_move_49 : decode cX0_move 49 = .ok (.aload_n 0, 1) := by decide +kernel
theorem dX0_move_50 : decode cX0_move 50 = .ok (.dup, 1) := by decide +kernel
theorem dX0_move_51 : decode cX0_move 51 = .ok (.getfield 24, 3) := by decide +kernel
theorem dX0_move_54 : decode cX0_move 54 = .ok (.iload_n 3, 1) := by decide +kernel
theorem dX0_move_55 : decode cX0_move 55 = .ok (.aload_n 0, 1) := by decide +kernel
theorem dX0_move_56 : decode cX0_move 56 = .ok (.getfield 31, 3) := by decide +kernel
theorem dX0_move_59 : decode cX0_move 59 = .ok (.iload 4, 2) := by decide +kernel
theorem dX0_move_61 : decode cX0_move 61 = .ok (.iaload, 1) := by decide +kernel
theorem dX0_move_62 : decode cX0_move 62 = .ok (.aload_n 0, 1) := by decide +kernel
theorem dX0_move_63 : decode cX0_move 63 = .ok (.getfield 53, 3) := by decide +kernel
theorem dX0_move_66 : decode cX0_move 66 = .ok (.isub, 1) := by decide +kernel
theorem dX0_move_67 : decode cX0_move 67 = .ok (.aload_n 0, 1) := by decide +kernel
theorem dX0_move_68 : decode cX0_move 68 = .ok (.getfield 56, 3) := by decide +kernel
theorem dX0_move_71 : decode cX0_move 71 = .ok (.isub, 1) := by decide +kernel
theorem dX0_move_72 : decode cX0_move 72 = .ok (.imul, 1) := by decide +kernel
theorem dX0_move_73 : decode cX0_move 73 = .ok (.iadd, 1) := by decide +kernel
theorem dX0_move_74 : decode cX0_move 74 = .ok (.putfield 24, 3) := by decide +kernel
theorem dX0_move_77 : decode cX0_move 77 = .ok (.return_, 1) := by decide +kernel
set_option maxRecDepth 20000 in
theorem ggX0_findPaths_J7_fill_d0a16 : GoodIn wsX0_findPaths wsJ7_fill_d0a16 := goodIn_r _ [10] (by decide +kernel) (by decide +kernel)
set_option maxRecDepth 20000 in
theorem gX0_findPaths_J7_fill_d0a16 : GoodIn wsX0_findPaths (va_wsS RX0 90 yJ7_fill_d0a16 wsJ7_fill_d0a16) := goodIn_app (goodIn_of _ (by decide +kernel)) ggX0_findPaths_J7_fill_d0a16
set_option maxRecDepth 20000 in
theorem ggX0_findPaths_J7_fill_53178 : GoodIn wsX0_findPaths wsJ7_fill_53178 := goodIn_r _ [13] (by decide +kernel) (by decide +kernel)
set_option maxRecDepth 20000 in
theorem gX0_findPaths_J7_fill_53178 : GoodIn wsX0_findPaths (va_wsS RX0 59 yJ7_fill_53178 wsJ7_fill_53178) := goodIn_app (goodIn_of _ (by decide +kernel)) ggX0_findPaths_J7_fill_53178
set_option maxRecDepth 20000 in
theorem ggX0_findPaths_X0_reachHoles : GoodIn wsX0_findPaths wsX0_reachHoles := goodIn_r _ [18, 19, 20, 21, 1, 3, 22, 5, 6, 28, 29, 30, 31, 32, 33, 34, 35, 36, 37, 38, 39, 40, 41, 42] (by decide +kernel) (by decide +kernel)
set_option maxRecDepth 20000 in
theorem gX0_findPaths_X0_reachHoles : GoodIn wsX0_findPaths (wsV RX0 93 RX0 yX0_reachHoles wsX0_reachHoles) := goodIn_app (goodIn_of _ (by decide +kernel)) ggX0_findPaths_X0_reachHoles
set_option maxRecDepth 20000 in
theorem ggX0_findPaths_X0_reachHeaps : GoodIn wsX0_findPaths wsX0_reachHeaps := goodIn_r _ [26, 19, 20, 27, 5, 3, 22, 1, 4, 28, 29, 30, 31, 32, 33, 34, 35, 36, 37, 38, 39, 40, 41, 42] (by decide +kernel) (by decide +kernel)
set_option maxRecDepth 20000 in
theorem gX0_findPaths_X0_reachHeaps : GoodIn wsX0_findPaths (wsV RX0 96 RX0 yX0_reachHeaps wsX0_reachHeaps) := goodIn_app (goodIn_of _ (by decide +kernel)) ggX0_findPaths_X0_reachHeaps
theorem dX0_findPaths_0 : decode cX0_findPaths 0 = .ok (.iconst 0, 1) := by decide +kernel
theorem dX0_findPaths_1 : decode cX0_findPaths 1 = .ok (.istore_n 1, 1) := by decide +kernel
theorem dX0_findPaths_2 : decode cX0_findPaths 2 = .ok (.iload_n 1, 1) := by decide +kernel
theorem dX0_findPaths_3 : decode cX0_findPaths 3 = .ok (.iconst 5, 1) := by decide +kernel
theorem dX0_findPaths_4 : decode cX0_findPaths 4 = .ok (.if_icmp .ge 38, 3) := by decide +kernel
theorem dX0_findPaths_7 : decode cX0_findPaths 7 = .ok (.aload_n 0, 1) := by decide +kernel
theorem dX0_findPaths_8 : decode cX0_findPaths 8 = .ok (.getfield 38, 3) := by decide +kernel
theorem dX0_findPaths_11 : decode cX0_findPaths 11 = .ok (.iload_n 1, 1) := by decide +kernel
theorem dX0_findPaths_12 : decode cX0_findPaths 12 = .ok (.aload_n 0, 1) := by decide +kernel
theorem dX0_findPaths_13 : decode cX0_findPaths 13 = .ok (.getfield 9, 3) := by decide +kernel
theorem dX0_findPaths_16 : decode cX0_findPaths 16 = .ok (.iload_n 1, 1) := by decide +kernel
theorem dX0_findPaths_17 : decode cX0_findPaths 17 = .ok (.iaload, 1) := by decide +kernel
theorem dX0_findPaths_18 : decode cX0_findPaths 18 = .ok (.ifCond .le 7, 3) := by decide +kernel
theorem dX0_findPaths_21 : decode cX0_findPaths 21 = .ok (.lconst 0, 1) := by decide +kernel
theorem dX0_findPaths_22 : decode cX0_findPaths 22 = .ok (.goto 6, 3) := by decide +kernel
theorem dX0_findPaths_25 : decode cX0_findPaths 25 = .ok (.ldc2_w 88, 3) := by decide +kernel
theorem dX0_findPaths_28 : decode cX0_findPaths 28 = .ok (.lastore, 1) := by decide +kernel
theorem dX0_findPaths_29 : decode cX0_findPaths 29 = .ok (.aload_n 0, 1) := by decide +kernel
theorem dX0_findPaths_30 : decode cX0_findPaths 30 = .ok (.getfield 44, 3) := by decide +kernel
theorem dX0_findPaths_33 : decode cX0_findPaths 33 = .ok (.iload_n 1, 1) := by decide +kernel
theorem dX0_findPaths_34 : decode cX0_findPaths 34 = .ok (.iconst (-1), 1) := by decide +kernel
theorem dX0_findPaths_35 : decode cX0_findPaths 35 = .ok (.iastore, 1) := by decide +kernel
theorem dX0_findPaths_36 : decode cX0_findPaths 36 = .ok (.iinc 1 1, 3) := by decide +kernel
theorem dX0_findPaths_39 : decode cX0_findPaths 39 = .ok (.goto (-37), 3) := by decide +kernel
theorem dX0_findPaths_42 : decode cX0_findPaths 42 = .ok (.aload_n 0, 1) := by decide +kernel
theorem dX0_findPaths_43 : decode cX0_findPaths 43 = .ok (.getfield 41, 3) := by decide +kernel
theorem dX0_findPaths_46 : decode cX0_findPaths 46 = .ok (.ldc2_w 88, 3) := by decide +kernel
theorem dX0_findPaths_49 : decode cX0_findPaths 49 = .ok (.invokestatic 90, 3) := by decide +kernel
theorem dX0_findPaths_52 : decode cX0_findPaths 52 = .ok (.aload_n 0, 1) := by decide +kernel
theorem dX0_findPaths_53 : decode cX0_findPaths 53 = .ok (.getfield 47, 3) := by decide +kernel
theorem dX0_findPaths_56 : decode cX0_findPaths 56 = .ok (.iconst (-1), 1) := by decide +kernel
theorem dX0_findPaths_57 : decode cX0_findPaths 57 = .ok (.invokestatic 59, 3) := by decide +kernel
theorem dX0_findPaths_60 : decode cX0_findPaths 60 = .ok (.iconst 1, 1) := by decide +kernel
theorem dX0_findPaths_61 : decode cX0_findPaths 61 = .ok (.istore_n 1, 1) := by decide +kernel
theorem dX0_findPaths_62 : decode cX0_findPaths 62 = .ok (.iconst 0, 1) := by decide +kernel
theorem dX0_findPaths_63 : decode cX0_findPaths 63 = .ok (.istore_n 2, 1) := by decide +kernel
theorem dX0_findPaths_64 : decode cX0_findPaths 64 = .ok (.iload_n 1, 1) := by decide +kernel
theorem dX0_findPaths_65 : decode cX0_findPaths 65 = .ok (.ifCond .eq 23, 3) := by decide +kernel
theorem dX0_findPaths_68 : decode cX0_findPaths 68 = .ok (.iload_n 2, 1) := by decide +kernel
theorem dX0_findPaths_69 : decode cX0_findPaths 69 = .ok (.iconst 5, 1) := by decide +kernel
theorem dX0_findPaths_70 : decode cX0_findPaths 70 = .ok (.if_icmp .gt 18, 3) := by decide +kernel
theorem dX0_findPaths_73 : decode cX0_findPaths 73 = .ok (.aload_n 0, 1) := by decide +kernel
theorem dX0_findPaths_74 : decode cX0_findPaths 74 = .ok (.invokevirtual 93, 3) := by decide +kernel
theorem dX0_findPaths_77 : decode cX0_findPaths 77 = .ok (.aload_n 0, 1) := by decide +kernel
theorem dX0_findPaths_78 : decode cX0_findPaths 78 = .ok (.invokevirtual 96, 3) := by decide +kernel
theorem dX0_findPaths_81 : decode cX0_findPaths 81 = .ok (.istore_n 1, 1) := by decide +kernel
theorem dX0_findPaths_82 : decode cX0_findPaths 82 = .ok (.iinc 2 1, 3) := by decide +kernel
theorem dX0_findPaths_85 : decode cX0_findPaths 85 = .ok (.goto (-21), 3) := by decide +kernel
theorem dX0_findPaths_88 : decode cX0_findPaths 88 = .ok (.return_, 1) := by decide +kernel
theorem dX0_reachHoles_0 : decode cX0_reachHoles 0 = .ok (.iconst 0, 1) := by decide +kernel
theorem dX0_reachHoles_1 : decode cX0_reachHoles 1 = .ok (.istore_n 1, 1) := by decide +kernel
theorem dX0_reachHoles_2 : decode cX0_reachHoles 2 = .ok (.iload_n 1, 1) := by decide +kernel
theorem dX0_reachHoles_3 : decode cX0_reachHoles 3 = .ok (.aload_n 0, 1) := by decide +kernel
theorem dX0_reachHoles_4 : decode cX0_reachHoles 4 = .ok (.getfield 50, 3) := by decide +kernel
theorem dX0_reachHoles_7 : decode cX0_reachHoles 7 = .ok (.if_icmp .ge 99, 3) := by decide +kernel
theorem dX0_reachHoles_10 : decode cX0_reachHoles 10 = .ok (.aload_n 0, 1) := by decide +kernel
theorem dX0_reachHoles_11 : decode cX0_reachHoles 11 = .ok (.getfield 28, 3) := by decide +kernel
theorem dX0_reachHoles_14 : decode cX0_reachHoles 14 = .ok (.iload_n 1, 1) := by decide +kernel
theorem dX0_reachHoles_15 : decode cX0_reachHoles 15 = .ok (.iaload, 1) := by decide +kernel
theorem dX0_reachHoles_16 : decode cX0_reachHoles 16 = .ok (.istore_n 2, 1) := by decide +kernel
theorem dX0_reachHoles_17 : decode cX0_reachHoles 17 = .ok (.iload_n 2, 1) := by decide +kernel
theorem dX0_reachHoles_18 : decode cX0_reachHoles 18 = .ok (.iconst 5, 1) := by decide +kernel
theorem dX0_reachHoles_19 : decode cX0_reachHoles 19 = .ok (.idiv, 1) := by decide +kernel
theorem dX0_reachHoles_20 : decode cX0_reachHoles 20 = .ok (.istore_n 3, 1) := by decide +kernel
theorem dX0_reachHoles_21 : decode cX0_reachHoles 21 = .ok (.iload_n 2, 1) := by decide +kernel
theorem dX0_reachHoles_22 : decode cX0_reachHoles 22 = .ok (.iconst 5, 1) := by decide +kernel
theorem dX0_reachHoles_23 : decode cX0_reachHoles 23 = .ok (.irem, 1) := by decide +kernel
theorem dX0_reachHoles_24 : decode cX0_reachHoles 24 = .ok (.istore 4, 2) := by decide +kernel
theorem dX0_reachHoles_26 : decode cX0_reachHoles 26 = .ok (.aload_n 0, 1) := by decide +kernel
theorem dX0_reachHoles_27 : decode cX0_reachHoles 27 = .ok (.getfield 21, 3) := by decide +kernel
theorem dX0_reachHoles_30 : decode cX0_reachHoles 30 = .ok (.iload_n 2, 1) := by decide +kernel
theorem dX0_reachHoles_31 : decode cX0_reachHoles 31 = .ok (.iaload, 1) := by decide +kernel
theorem dX0_reachHoles_32 : decode cX0_reachHoles 32 = .ok (.ifCond .le 68, 3) := by decide +kernel
theorem dX0_reachHoles_35 : decode cX0_reachHoles 35 = .ok (.aload_n 0, 1) := by decide +kernel
theorem dX0_reachHoles_36 : decode cX0_reachHoles 36 = .ok (.getfield 38, 3) := by decide +kernel
theorem dX0_reachHoles_39 : decode cX0_reachHoles 39 = .ok (.iload_n 3, 1) := by decide +kernel
theorem dX0_reachHoles_40 : decode cX0_reachHoles 40 = .ok (.laload, 1) := by decide +kernel
theorem dX0_reachHoles_41 : decode cX0_reachHoles 41 = .ok (.ldc2_w 88, 3) := by decide +kernel
theorem dX0_reachHoles_44 : decode cX0_reachHoles 44 = .ok (.lcmp, 1) := by decide +kernel
theorem dX0_reachHoles_45 : decode cX0_reachHoles 45 = .ok (.ifCond .ge 55, 3) := by decide +kernel
theorem dX0_reachHoles_48 : decode cX0_reachHoles 48 = .ok (.aload_n 0, 1) := by decide +kernel
theorem dX0_reachHoles_49 : decode cX0_reachHoles 49 = .ok (.getfield 38, 3) := by decide +kernel
theorem dX0_reachHoles_52 : decode cX0_reachHoles 52 = .ok (.iload_n 3, 1) := by decide +kernel
theorem dX0_reachHoles_53 : decode cX0_reachHoles 53 = .ok (.laload, 1) := by decide +kernel
theorem dX0_reachHoles_54 : decode cX0_reachHoles 54 = .ok (.aload_n 0, 1) := by decide +kernel
theorem dX0_reachHoles_55 : decode cX0_reachHoles 55 = .ok (.getfield 34, 3) := by decide +kernel
theorem dX0_reachHoles_58 : decode cX0_reachHoles 58 = .ok (.iload_n 2, 1) := by decide +kernel
theorem dX0_reachHoles_59 : decode cX0_reachHoles 59 = .ok (.laload, 1) := by decide +kernel
theorem dX0_reachHoles_60 : decode cX0_reachHoles 60 = .ok (.ladd, 1) := by decide +kernel
theorem dX0_reachHoles_61 : decode cX0_reachHoles 61 = .ok (.aload_n 0, 1) := by decide +kernel
theorem dX0_reachHoles_62 : decode cX0_reachHoles 62 = .ok (.getfield 41, 3) := by decide +kernel
theorem dX0_reachHoles_65 : decode cX0_reachHoles 65 = .ok (.iload 4, 2) := by decide +kernel
theorem dX0_reachHoles_67 : decode cX0_reachHoles 67 = .ok (.laload, 1) := by decide +kernel
theorem dX0_reachHoles_68 : decode cX0_reachHoles 68 = .ok (.lcmp, 1) := by decide +kernel
theorem dX0_reachHoles_69 : decode cX0_reachHoles 69 = .ok (.ifCond .ge 31, 3) := by decide +kernel
theorem dX0_reachHoles_72 : decode cX0_reachHoles 72 = .ok (.aload_n 0, 1) := by decide +kernel
theorem dX0_reachHoles_73 : decode cX0_reachHoles 73 = .ok (.getfield 41, 3) := by decide +kernel
theorem dX0_reachHoles_76 : decode cX0_reachHoles 76 = .ok (.iload 4, 2) := by decide +kernel
theorem dX0_reachHoles_78 : decode cX0_reachHoles 78 = .ok (.aload_n 0, 1) := by decide +kernel
theorem dX0_reachHoles_79 : decode cX0_reachHoles 79 = .ok (.getfield 38, 3) := by decide +kernel
theorem dX0_reachHoles_82 : decode cX0_reachHoles 82 = .ok (.iload_n 3, 1) := by decide +kernel
theorem dX0_reachHoles_83 : decode cX0_reachHoles 83 = .ok (.laload, 1) := by decide +kernel
theorem dX0_reachHoles_84 : decode cX0_reachHoles 84 = .ok (.aload_n 0, 1) := by decide +kernel
theorem dX0_reachHoles_85 : decode cX0_reachHoles 85 = .ok (.getfield 34, 3) := by decide +kernel
theorem dX0_reachHoles_88 : decode cX0_reachHoles 88 = .ok (.iload_n 2, 1) := by decide +kernel
theorem dX0_reachHoles_89 : decode cX0_reachHoles 89 = .ok (.laload, 1) := by decide +kernel
theorem dX0_reachHoles_90 : decode cX0_reachHoles 90 = .ok (.ladd, 1) := by decide +kernel
theorem dX0_reachHoles_91 : decode cX0_reachHoles 91 = .ok (.lastore, 1) := by decide +kernel
theorem dX0_reachHoles_92 : decode cX0_reachHoles 92 = .ok (.aload_n 0, 1) := by decide +kernel
theorem dX0_reachHoles_93 : decode cX0_reachHoles 93 = .ok (.getfield 47, 3) := by decide +kernel
theorem dX0_reachHoles_96 : decode cX0_reachHoles 96 = .ok (.iload 4, 2) := by decide +kernel
theorem dX0_reachHoles_98 : decode cX0_reachHoles 98 = .ok (.iload_n 3, 1) := by decide +kernel
theorem dX0_reachHoles_99 : decode cX0_reachHoles 99 = .ok (.iastore, 1) := by decide +kernel
theorem dX0_reachHoles_100 : decode cX0_reachHoles 100 = .ok (.iinc 1 1, 3) := by decide +kernel
theorem dX0_reachHoles_103 : decode cX0_reachHoles 103 = .ok (.goto (-101), 3) := by decide +kernel
theorem dX0_reachHoles_106 : decode cX0_reachHoles 106 = .ok (.return_, 1) := by decide +kernel
theorem dX0_reachHeaps_0 : decode cX0_reachHeaps 0 = .ok (.iconst 0, 1) := by decide +kernel
theorem dX0_reachHeaps_1 : decode cX0_reachHeaps 1 = .ok (.istore_n 1, 1) := by decide +kernel
theorem dX0_reachHeaps_2 : decode cX0_reachHeaps 2 = .ok (.iconst 0, 1) := by decide +kernel
theorem dX0_reachHeaps_3 : decode cX0_reachHeaps 3 = .ok (.istore_n 2, 1) := by decide +kernel
theorem dX0_reachHeaps_4 : decode cX0_reachHeaps 4 = .ok (.iload_n 2, 1) := by decide +kernel
theorem dX0_reachHeaps_5 : decode cX0_reachHeaps 5 = .ok (.aload_n 0, 1) := by decide +kernel
theorem dX0_reachHeaps_6 : decode cX0_reachHeaps 6 = .ok (.getfield 50, 3) := by decide +kernel
theorem dX0_reachHeaps_9 : decode cX0_reachHeaps 9 = .ok (.if_icmp .ge 106, 3) := by decide +kernel
theorem dX0_reachHeaps_12 : decode cX0_reachHeaps 12 = .ok (.aload_n 0, 1) := by decide +kernel
theorem dX0_reachHeaps_13 : decode cX0_reachHeaps 13 = .ok (.getfield 28, 3) := by decide +kernel
theorem dX0_reachHeaps_16 : decode cX0_reachHeaps 16 = .ok (.iload_n 2, 1) := by decide +kernel
theorem dX0_reachHeaps_17 : decode cX0_reachHeaps 17 = .ok (.iaload, 1) := by decide +kernel
theorem dX0_reachHeaps_18 : decode cX0_reachHeaps 18 = .ok (.istore_n 3, 1) := by decide +kernel
theorem dX0_reachHeaps_19 : decode cX0_reachHeaps 19 = .ok (.iload_n 3, 1) := by decide +kernel
theorem dX0_reachHeaps_20 : decode cX0_reachHeaps 20 = .ok (.iconst 5, 1) := by decide +kernel
theorem dX0_reachHeaps_21 : decode cX0_reachHeaps 21 = .ok (.idiv, 1) := by decide +kernel
theorem dX0_reachHeaps_22 : decode cX0_reachHeaps 22 = .ok (.istore 4, 2) := by decide +kernel
theorem dX0_reachHeaps_24 : decode cX0_reachHeaps 24 = .ok (.iload_n 3, 1) := by decide +kernel
theorem dX0_reachHeaps_25 : decode cX0_reachHeaps 25 = .ok (.iconst 5, 1) := by decide +kernel
theorem dX0_reachHeaps_26 : decode cX0_reachHeaps 26 = .ok (.irem, 1) := by decide +kernel
theorem dX0_reachHeaps_27 : decode cX0_reachHeaps 27 = .ok (.istore 5, 2) := by decide +kernel
theorem dX0_reachHeaps_29 : decode cX0_reachHeaps 29 = .ok (.aload_n 0, 1) := by decide +kernel
theorem dX0_reachHeaps_30 : decode cX0_reachHeaps 30 = .ok (.getfield 18, 3) := by decide +kernel
theorem dX0_reachHeaps_33 : decode cX0_reachHeaps 33 = .ok (.iload_n 3, 1) := by decide +kernel
theorem dX0_reachHeaps_34 : decode cX0_reachHeaps 34 = .ok (.iaload, 1) := by decide +kernel
theorem dX0_reachHeaps_35 : decode cX0_reachHeaps 35 = .ok (.ifCond .le 74, 3) := by decide +kernel
theorem dX0_reachHeaps_38 : decode cX0_reachHeaps 38 = .ok (.aload_n 0, 1) := by decide +kernel
theorem dX0_reachHeaps_39 : decode cX0_reachHeaps 39 = .ok (.getfield 41, 3) := by decide +kernel
theorem dX0_reachHeaps_42 : decode cX0_reachHeaps 42 = .ok (.iload 5, 2) := by decide +kernel
theorem dX0_reachHeaps_44 : decode cX0_reachHeaps 44 = .ok (.laload, 1) := by decide +kernel
theorem dX0_reachHeaps_45 : decode cX0_reachHeaps 45 = .ok (.ldc2_w 88, 3) := by decide +kernel
theorem dX0_reachHeaps_48 : decode cX0_reachHeaps 48 = .ok (.lcmp, 1) := by decide +kernel
theorem dX0_reachHeaps_49 : decode cX0_reachHeaps 49 = .ok (.ifCond .ge 60, 3) := by decide +kernel
theorem dX0_reachHeaps_52 : decode cX0_reachHeaps 52 = .ok (.aload_n 0, 1) := by decide +kernel
theorem dX0_reachHeaps_53 : decode cX0_reachHeaps 53 = .ok (.getfield 41, 3) := by decide +kernel
theorem dX0_reachHeaps_56 : decode cX0_reachHeaps 56 = .ok (.iload 5, 2) := by decide +kernel
theorem dX0_reachHeaps_58 : decode cX0_reachHeaps 58 = .ok (.laload, 1) := by decide +kernel
theorem dX0_reachHeaps_59 : decode cX0_reachHeaps 59 = .ok (.aload_n 0, 1) := by decide +kernel
theorem dX0_reachHeaps_60 : decode cX0_reachHeaps 60 = .ok (.getfield 34, 3) := by decide +kernel
theorem dX0_reachHeaps_63 : decode cX0_reachHeaps 63 = .ok (.iload_n 3, 1) := by decide +kernel
theorem dX0_reachHeaps_64 : decode cX0_reachHeaps 64 = .ok (.laload, 1) := by decide +kernel
theorem dX0_reachHeaps_65 : decode cX0_reachHeaps 65 = .ok (.lsub, 1) := by decide +kernel
theorem dX0_reachHeaps_66 : decode cX0_reachHeaps 66 = .ok (.aload_n 0, 1) := by decide +kernel
theorem dX0_reachHeaps_67 : decode cX0_reachHeaps 67 = .ok (.getfield 38, 3) := by decide +kernel
theorem dX0_reachHeaps_70 : decode cX0_reachHeaps 70 = .ok (.iload 4, 2) := by decide +kernel
theorem dX0_reachHeaps_72 : decode cX0_reachHeaps 72 = .ok (.laload, 1) := by decide +kernel
theorem dX0_reachHeaps_73 : decode cX0_reachHeaps 73 = .ok (.lcmp, 1) := by decide +kernel
theorem dX0_reachHeaps_74 : decode cX0_reachHeaps 74 = .ok (.ifCond .ge 35, 3) := by decide +kernel
theorem dX0_reachHeaps_77 : decode cX0_reachHeaps 77 = .ok (.aload_n 0, 1) := by decide +kernel
theorem dX0_reachHeaps_78 : decode cX0_reachHeaps 78 = .ok (.getfield 38, 3) := by decide +kernel
theorem dX0_reachHeaps_81 : decode cX0_reachHeaps 81 = .ok (.iload 4, 2) := by decide +kernel
theorem dX0_reachHeaps_83 : decode cX0_reachHeaps 83 = .ok (.aload_n 0, 1) := by decide +kernel
theorem dX0_reachHeaps_84 : decode cX0_reachHeaps 84 = .ok (.getfield 41, 3) := by decide +kernel
theorem dX0_reachHeaps_87 : decode cX0_reachHeaps 87 = .ok (.iload 5, 2) := by decide +kernel
theorem dX0_reachHeaps_89 : decode cX0_reachHeaps 89 = .ok (.laload, 1) := by decide +kernel
theorem dX0_reachHeaps_90 : decode cX0_reachHeaps 90 = .ok (.aload_n 0, 1) := by decide +kernel
theorem dX0_reachHeaps_91 : decode cX0_reachHeaps 91 = .ok (.getfield 34, 3) := by decide +kernel
theorem dX0_reachHeaps_94 : decode cX0_reachHeaps 94 = .ok (.iload_n 3, 1) := by decide +kernel
theorem dX0_reachHeaps_95 : decode cX0_reachHeaps 95 = .ok (.laload, 1) := by decide +kernel
theorem dX0_reachHeaps_96 : decode cX0_reachHeaps 96 = .ok (.lsub, 1) := by decide +kernel
theorem dX0_reachHeaps_97 : decode cX0_reachHeaps 97 = .ok (.lastore, 1) := by decide +kernel
theorem dX0_reachHeaps_98 : decode cX0_reachHeaps 98 = .ok (.aload_n 0, 1) := by decide +kernel
theorem dX0_reachHeaps_99 : decode cX0_reachHeaps 99 = .ok (.getfield 44, 3) := by decide +kernel
theorem dX0_reachHeaps_102 : decode cX0_reachHeaps 102 = .ok (.iload 4, 2) := by decide +kernel
theorem dX0_reachHeaps_104 : decode cX0_reachHeaps 104 = .ok (.iload 5, 2) := by decide +kernel
theorem dX0_reachHeaps_106 : decode cX0_reachHeaps 106 = .ok (.iastore, 1) := by decide +kernel
theorem dX0_reachHeaps_107 : decode cX0_reachHeaps 107 = .ok (.iconst 1, 1) := by decide +kernel
theorem dX0_reachHeaps_108 : decode cX0_reachHeaps 108 = .ok (.istore_n 1, 1) := by decide +kernel
theorem dX0_reachHeaps_109 : decode cX0_reachHeaps 109 = .ok (.iinc 2 1, 3) := by decide +kernel
theorem dX0_reachHeaps_112 : decode cX0_reachHeaps 112 = .ok (.goto (-108), 3) := by decide +kernel
theorem dX0_reachHeaps_115 : decode cX0_reachHeaps 115 = .ok (.iload_n 1, 1) := by decide +kernel
theorem dX0_reachHeaps_116 : decode cX0_reachHeaps 116 = .ok (.ireturn, 1) := by decide +kernel
theorem dX0_nearestHole_0 : decode cX0_nearestHole 0 = .ok (.iconst (-1), 1) := by decide +kernel
theorem dX0_nearestHole_1 : decode cX0_nearestHole 1 = .ok (.istore_n 1, 1) := by decide +kernel
theorem dX0_nearestHole_2 : decode cX0_nearestHole 2 = .ok (.aload_n 0, 1) := by decide +kernel
theorem dX0_nearestHole_3 : decode cX0_nearestHole 3 = .ok (.getfield 53, 3) := by decide +kernel
theorem dX0_nearestHole_6 : decode cX0_nearestHole 6 = .ok (.aload_n 0, 1) := by decide +kernel
theorem dX0_nearestHole_7 : decode cX0_nearestHole 7 = .ok (.getfield 56, 3) := by decide +kernel
theorem dX0_nearestHole_10 : decode cX0_nearestHole 10 = .ok (.iadd, 1) := by decide +kernel
theorem dX0_nearestHole_11 : decode cX0_nearestHole 11 = .ok (.i2l, 1) := by decide +kernel
theorem dX0_nearestHole_12 : decode cX0_nearestHole 12 = .ok (.bipush 25, 2) := by decide +kernel
theorem dX0_nearestHole_14 : decode cX0_nearestHole 14 = .ok (.lshl, 1) := by decide +kernel
theorem dX0_nearestHole_15 : decode cX0_nearestHole 15 = .ok (.lstore_n 2, 1) := by decide +kernel
theorem dX0_nearestHole_16 : decode cX0_nearestHole 16 = .ok (.iconst 0, 1) := by decide +kernel
theorem dX0_nearestHole_17 : decode cX0_nearestHole 17 = .ok (.istore 4, 2) := by decide +kernel
theorem dX0_nearestHole_19 : decode cX0_nearestHole 19 = .ok (.iload 4, 2) := by decide +kernel
theorem dX0_nearestHole_21 : decode cX0_nearestHole 21 = .ok (.iconst 5, 1) := by decide +kernel
theorem dX0_nearestHole_22 : decode cX0_nearestHole 22 = .ok (.if_icmp .ge 42, 3) := by decide +kernel
theorem dX0_nearestHole_25 : decode cX0_nearestHole 25 = .ok (.aload_n 0, 1) := by decide +kernel
theorem dX0_nearestHole_26 : decode cX0_nearestHole 26 = .ok (.getfield 15, 3) := by decide +kernel
theorem dX0_nearestHole_29 : decode cX0_nearestHole 29 = .ok (.iload 4, 2) := by decide +kernel
theorem dX0_nearestHole_31 : decode cX0_nearestHole 31 = .ok (.iaload, 1) := by decide +kernel
theorem dX0_nearestHole_32 : decode cX0_nearestHole 32 = .ok (.ifCond .le 26, 3) := by decide +kernel
theorem dX0_nearestHole_35 : decode cX0_nearestHole 35 = .ok (.aload_n 0, 1) := by decide +kernel
theorem dX0_nearestHole_36 : decode cX0_nearestHole 36 = .ok (.getfield 41, 3) := by decide +kernel
theorem dX0_nearestHole_39 : decode cX0_nearestHole 39 = .ok (.iload 4, 2) := by decide +kernel
theorem dX0_nearestHole_41 : decode cX0_nearestHole 41 = .ok (.laload, 1) := by decide +kernel
theorem dX0_nearestHole_42 : decode cX0_nearestHole 42 = .ok (.lload_n 2, 1) := by decide +kernel
theorem dX0_nearestHole_43 : decode cX0_nearestHole 43 = .ok (.lcmp, 1) := by decide +kernel
theorem dX0_nearestHole_44 : decode cX0_nearestHole 44 = .ok (.ifCond .ge 14, 3) := by decide +kernel
theorem dX0_nearestHole_47 : decode cX0_nearestHole 47 = .ok (.aload_n 0, 1) := by decide +kernel
theorem dX0_nearestHole_48 : decode cX0_nearestHole 48 = .ok (.getfield 41, 3) := by decide +kernel
theorem dX0_nearestHole_51 : decode cX0_nearestHole 51 = .ok (.iload 4, 2) := by decide +kernel
theorem dX0_nearestHole_53 : decode cX0_nearestHole 53 = .ok (.laload, 1) := by decide +kernel
theorem dX0_nearestHole_54 : decode cX0_nearestHole 54 = .ok (.lstore_n 2, 1) := by decide +kernel
theorem dX0_nearestHole_55 : decode cX0_nearestHole 55 = .ok (.iload 4, 2) := by decide +kernel
theorem dX0_nearestHole_57 : decode cX0_nearestHole 57 = .ok (.istore_n 1, 1) := by decide +kernel
theorem dX0_nearestHole_58 : decode cX0_nearestHole 58 = .ok (.iinc 4 1, 3) := by decide +kernel
theorem dX0_nearestHole_61 : decode cX0_nearestHole 61 = .ok (.goto (-42), 3) := by decide +kernel
theorem dX0_nearestHole_64 : decode cX0_nearestHole 64 = .ok (.iload_n 1, 1) := by decide +kernel
theorem dX0_nearestHole_65 : decode cX0_nearestHole 65 = .ok (.ireturn, 1) := by decide +kernel
set_option maxRecDepth 20000 in
theorem ggX0_roomOnPath_X2_wayOf : GoodIn wsX0_roomOnPath wsX2_wayOf := goodIn_r _ [13] (by decide +kernel) (by decide +kernel)
set_option maxRecDepth 20000 in
theorem gX0_roomOnPath_X2_wayOf_n84 : GoodIn wsX0_roomOnPath (wsX2_wayOf) := ggX0_roomOnPath_X2_wayOf
theorem dX0_roomOnPath_0 : decode cX0_roomOnPath 0 = .ok (.aload_n 0, 1) := by decide +kernel
theorem dX0_roomOnPath_1 : decode cX0_roomOnPath 1 = .ok (.getfield 15, 3) := by decide +kernel
theorem dX0_roomOnPath_4 : decode cX0_roomOnPath 4 = .ok (.iload_n 1, 1) := by decide +kernel
theorem dX0_roomOnPath_5 : decode cX0_roomOnPath 5 = .ok (.iaload, 1) := by decide +kernel
theorem dX0_roomOnPath_6 : decode cX0_roomOnPath 6 = .ok (.istore_n 2, 1) := by decide +kernel
theorem dX0_roomOnPath_7 : decode cX0_roomOnPath 7 = .ok (.iload_n 1, 1) := by decide +kernel
theorem dX0_roomOnPath_8 : decode cX0_roomOnPath 8 = .ok (.istore_n 3, 1) := by decide +kernel
theorem dX0_roomOnPath_9 : decode cX0_roomOnPath 9 = .ok (.iconst 0, 1) := by decide +kernel
theorem dX0_roomOnPath_10 : decode cX0_roomOnPath 10 = .ok (.istore 4, 2) := by decide +kernel
theorem dX0_roomOnPath_12 : decode cX0_roomOnPath 12 = .ok (.iload 4, 2) := by decide +kernel
theorem dX0_roomOnPath_14 : decode cX0_roomOnPath 14 = .ok (.iconst 5, 1) := by decide +kernel
theorem dX0_roomOnPath_15 : decode cX0_roomOnPath 15 = .ok (.if_icmp .ge 82, 3) := by decide +kernel
theorem dX0_roomOnPath_18 : decode cX0_roomOnPath 18 = .ok (.aload_n 0, 1) := by decide +kernel
theorem dX0_roomOnPath_19 : decode cX0_roomOnPath 19 = .ok (.getfield 47, 3) := by decide +kernel
theorem dX0_roomOnPath_22 : decode cX0_roomOnPath 22 = .ok (.iload_n 3, 1) := by decide +kernel
theorem dX0_roomOnPath_23 : decode cX0_roomOnPath 23 = .ok (.iaload, 1) := by decide +kernel
theorem dX0_roomOnPath_24 : decode cX0_roomOnPath 24 = .ok (.istore 5, 2) := by decide +kernel
theorem dX0_roomOnPath_26 : decode cX0_roomOnPath 26 = .ok (.iload 5, 2) := by decide +kernel
theorem dX0_roomOnPath_28 : decode cX0_roomOnPath 28 = .ok (.iconst (-1), 1) := by decide +kernel
theorem dX0_roomOnPath_29 : decode cX0_roomOnPath 29 = .ok (.if_icmp .ne 5, 3) := by decide +kernel
theorem dX0_roomOnPath_32 : decode cX0_roomOnPath 32 = .ok (.iconst 0, 1) := by decide +kernel
theorem dX0_roomOnPath_33 : decode cX0_roomOnPath 33 = .ok (.ireturn, 1) := by decide +kernel
theorem dX0_roomOnPath_34 : decode cX0_roomOnPath 34 = .ok (.iload_n 2, 1) := by decide +kernel
theorem dX0_roomOnPath_35 : decode cX0_roomOnPath 35 = .ok (.aload_n 0, 1) := by decide +kernel
theorem dX0_roomOnPath_36 : decode cX0_roomOnPath 36 = .ok (.getfield 21, 3) := by decide +kernel
theorem dX0_roomOnPath_39 : decode cX0_roomOnPath 39 = .ok (.iload 5, 2) := by decide +kernel
theorem dX0_roomOnPath_41 : decode cX0_roomOnPath 41 = .ok (.iload_n 3, 1) := by decide +kernel
theorem dX0_roomOnPath_42 : decode cX0_roomOnPath 42 = .ok (.invokestatic 84, 3) := by decide +kernel
theorem dX0_roomOnPath_45 : decode cX0_roomOnPath 45 = .ok (.iaload, 1) := by decide +kernel
theorem dX0_roomOnPath_46 : decode cX0_roomOnPath 46 = .ok (.invokestatic 100, 3) := by decide +kernel
theorem dX0_roomOnPath_49 : decode cX0_roomOnPath 49 = .ok (.istore_n 2, 1) := by decide +kernel
theorem dX0_roomOnPath_50 : decode cX0_roomOnPath 50 = .ok (.aload_n 0, 1) := by decide +kernel
theorem dX0_roomOnPath_51 : decode cX0_roomOnPath 51 = .ok (.getfield 44, 3) := by decide +kernel
theorem dX0_roomOnPath_54 : decode cX0_roomOnPath 54 = .ok (.iload 5, 2) := by decide +kernel
theorem dX0_roomOnPath_56 : decode cX0_roomOnPath 56 = .ok (.iaload, 1) := by decide +kernel
theorem dX0_roomOnPath_57 : decode cX0_roomOnPath 57 = .ok (.istore_n 3, 1) := by decide +kernel
theorem dX0_roomOnPath_58 : decode cX0_roomOnPath 58 = .ok (.iload_n 3, 1) := by decide +kernel
theorem dX0_roomOnPath_59 : decode cX0_roomOnPath 59 = .ok (.iconst (-1), 1) := by decide +kernel
theorem dX0_roomOnPath_60 : decode cX0_roomOnPath 60 = .ok (.if_icmp .ne 15, 3) := by decide +kernel
theorem dX0_roomOnPath_63 : decode cX0_roomOnPath 63 = .ok (.iload_n 2, 1) := by decide +kernel
theorem dX0_roomOnPath_64 : decode cX0_roomOnPath 64 = .ok (.aload_n 0, 1) := by decide +kernel
theorem dX0_roomOnPath_65 : decode cX0_roomOnPath 65 = .ok (.getfield 9, 3) := by decide +kernel
theorem dX0_roomOnPath_68 : decode cX0_roomOnPath 68 = .ok (.iload 5, 2) := by decide +kernel
theorem dX0_roomOnPath_70 : decode cX0_roomOnPath 70 = .ok (.iaload, 1) := by decide +kernel
theorem dX0_roomOnPath_71 : decode cX0_roomOnPath 71 = .ok (.invokestatic 100, 3) := by decide +kernel
theorem dX0_roomOnPath_74 : decode cX0_roomOnPath 74 = .ok (.ireturn, 1) := by decide +kernel
theorem dX0_roomOnPath_75 : decode cX0_roomOnPath 75 = .ok (.iload_n 2, 1) := by decide +kernel
theorem dX0_roomOnPath_76 : decode cX0_roomOnPath 76 = .ok (.aload_n 0, 1) := by decide +kernel
theorem dX0_roomOnPath_77 : decode cX0_roomOnPath 77 = .ok (.getfield 18, 3) := by decide +kernel
theorem dX0_roomOnPath_80 : decode cX0_roomOnPath 80 = .ok (.iload 5, 2) := by decide +kernel
theorem dX0_roomOnPath_82 : decode cX0_roomOnPath 82 = .ok (.iload_n 3, 1) := by decide +kernel
theorem dX0_roomOnPath_83 : decode cX0_roomOnPath 83 = .ok (.invokestatic 84, 3) := by decide +kernel
theorem dX0_roomOnPath_86 : decode cX0_roomOnPath 86 = .ok (.iaload, 1) := by decide +kernel
theorem dX0_roomOnPath_87 : decode cX0_roomOnPath 87 = .ok (.invokestatic 100, 3) := by decide +kernel
theorem dX0_roomOnPath_90 : decode cX0_roomOnPath 90 = .ok (.istore_n 2, 1) := by decide +kernel
theorem dX0_roomOnPath_91 : decode cX0_roomOnPath 91 = .ok (.iinc 4 1, 3) := by decide +kernel
theorem dX0_roomOnPath_94 : decode cX0_roomOnPath 94 = .ok (.goto (-82), 3) := by decide +kernel
theorem dX0_roomOnPath_97 : decode cX0_roomOnPath 97 = .ok (.iconst 0, 1) := by decide +kernel
theorem dX0_roomOnPath_98 : decode cX0_roomOnPath 98 = .ok (.ireturn, 1) := by decide +kernel
set_option maxRecDepth 20000 in
theorem ggX0_carryAlongPath_X0_move : GoodIn wsX0_carryAlongPath wsX0_move := goodIn_r _ [7, 8, 9, 10, 11, 12, 13, 14, 15, 16, 17, 18, 19, 20, 21, 22, 23, 24, 25, 26, 27, 28, 29, 30, 31, 32, 33] (by decide +kernel) (by decide +kernel)
set_option maxRecDepth 20000 in
theorem gX0_carryAlongPath_X0_move : GoodIn wsX0_carryAlongPath (wsV RX0 80 RX0 yX0_move wsX0_move) := goodIn_app (goodIn_of _ (by decide +kernel)) ggX0_carryAlongPath_X0_move
theorem dX0_carryAlongPath_0 : decode cX0_carryAlongPath 0 = .ok (.iload_n 1, 1) := by decide +kernel
theorem dX0_carryAlongPath_1 : decode cX0_carryAlongPath 1 = .ok (.istore_n 3, 1) := by decide +kernel
theorem dX0_carryAlongPath_2 : decode cX0_carryAlongPath 2 = .ok (.iconst 0, 1) := by decide +kernel
theorem dX0_carryAlongPath_3 : decode cX0_carryAlongPath 3 = .ok (.istore 4, 2) := by decide +kernel
theorem dX0_carryAlongPath_5 : decode cX0_carryAlongPath 5 = .ok (.iload 4, 2) := by decide +kernel
theorem dX0_carryAlongPath_7 : decode cX0_carryAlongPath 7 = .ok (.iconst 5, 1) := by decide +kernel
theorem dX0_carryAlongPath_8 : decode cX0_carryAlongPath 8 = .ok (.if_icmp .ge 61, 3) := by decide +kernel
theorem dX0_carryAlongPath_11 : decode cX0_carryAlongPath 11 = .ok (.iload_n 2, 1) := by decide +kernel
theorem dX0_carryAlongPath_12 : decode cX0_carryAlongPath 12 = .ok (.ifCond .le 57, 3) := by decide +kernel
theorem dX0_carryAlongPath_15 : decode cX0_carryAlongPath 15 = .ok (.aload_n 0, 1) := by decide +kernel
theorem dX0_carryAlongPath_16 : decode cX0_carryAlongPath 16 = .ok (.getfield 47, 3) := by decide +kernel
theorem dX0_carryAlongPath_19 : decode cX0_carryAlongPath 19 = .ok (.iload_n 3, 1) := by decide +kernel
theorem dX0_carryAlongPath_20 : decode cX0_carryAlongPath 20 = .ok (.iaload, 1) := by decide +kernel
theorem dX0_carryAlongPath_21 : decode cX0_carryAlongPath 21 = .ok (.istore 5, 2) := by decide +kernel
theorem dX0_carryAlongPath_23 : decode cX0_carryAlongPath 23 = .ok (.iload 5, 2) := by decide +kernel
theorem dX0_carryAlongPath_25 : decode cX0_carryAlongPath 25 = .ok (.iconst (-1), 1) := by decide +kernel
theorem dX0_carryAlongPath_26 : decode cX0_carryAlongPath 26 = .ok (.if_icmp .ne 5, 3) := by decide +kernel
theorem dX0_carryAlongPath_29 : decode cX0_carryAlongPath 29 = .ok (.iconst 0, 1) := by decide +kernel
theorem dX0_carryAlongPath_30 : decode cX0_carryAlongPath 30 = .ok (.ireturn, 1) := by decide +kernel
theorem dX0_carryAlongPath_31 : decode cX0_carryAlongPath 31 = .ok (.aload_n 0, 1) := by decide +kernel
theorem dX0_carryAlongPath_32 : decode cX0_carryAlongPath 32 = .ok (.iload 5, 2) := by decide +kernel
theorem dX0_carryAlongPath_34 : decode cX0_carryAlongPath 34 = .ok (.iload_n 3, 1) := by decide +kernel
theorem dX0_carryAlongPath_35 : decode cX0_carryAlongPath 35 = .ok (.iload_n 2, 1) := by decide +kernel
theorem dX0_carryAlongPath_36 : decode cX0_carryAlongPath 36 = .ok (.invokevirtual 80, 3) := by decide +kernel
theorem dX0_carryAlongPath_39 : decode cX0_carryAlongPath 39 = .ok (.aload_n 0, 1) := by decide +kernel
theorem dX0_carryAlongPath_40 : decode cX0_carryAlongPath 40 = .ok (.getfield 44, 3) := by decide +kernel
theorem dX0_carryAlongPath_43 : decode cX0_carryAlongPath 43 = .ok (.iload 5, 2) := by decide +kernel
theorem dX0_carryAlongPath_45 : decode cX0_carryAlongPath 45 = .ok (.iaload, 1) := by decide +kernel
theorem dX0_carryAlongPath_46 : decode cX0_carryAlongPath 46 = .ok (.istore_n 3, 1) := by decide +kernel
theorem dX0_carryAlongPath_47 : decode cX0_carryAlongPath 47 = .ok (.iload_n 3, 1) := by decide +kernel
theorem dX0_carryAlongPath_48 : decode cX0_carryAlongPath 48 = .ok (.iconst (-1), 1) := by decide +kernel
theorem dX0_carryAlongPath_49 : decode cX0_carryAlongPath 49 = .ok (.if_icmp .ne 5, 3) := by decide +kernel
theorem dX0_carryAlongPath_52 : decode cX0_carryAlongPath 52 = .ok (.iconst 1, 1) := by decide +kernel
theorem dX0_carryAlongPath_53 : decode cX0_carryAlongPath 53 = .ok (.ireturn, 1) := by decide +kernel
theorem dX0_carryAlongPath_54 : decode cX0_carryAlongPath 54 = .ok (.aload_n 0, 1) := by decide +kernel
theorem dX0_carryAlongPath_55 : decode cX0_carryAlongPath 55 = .ok (.iload 5, 2) := by decide +kernel
theorem dX0_carryAlongPath_57 : decode cX0_carryAlongPath 57 = .ok (.iload_n 3, 1) := by decide +kernel
theorem dX0_carryAlongPath_58 : decode cX0_carryAlongPath 58 = .ok (.iload_n 2, 1) := by decide +kernel
theorem dX0_carryAlongPath_59 : decode cX0_carryAlongPath 59 = .ok (.ineg, 1) := by decide +kernel
theorem dX0_carryAlongPath_60 : decode cX0_carryAlongPath 60 = .ok (.invokevirtual 80, 3) := by decide +kernel
theorem dX0_carryAlongPath_63 : decode cX0_carryAlongPath 63 = .ok (.iinc 4 1, 3) := by decide +kernel
theorem dX0_carryAlongPath_66 : decode cX0_carryAlongPath 66 = .ok (.goto (-61), 3) := by decide +kernel
theorem dX0_carryAlongPath_69 : decode cX0_carryAlongPath 69 = .ok (.iconst 0, 1) := by decide +kernel
theorem dX0_carryAlongPath_70 : decode cX0_carryAlongPath 70 = .ok (.ireturn, 1) := by decide +kernel
theorem dX1_init_0 : decode cX1_init 0 = .ok (.aload_n 0, 1) := by decide +kernel
theorem dX1_init_1 : decode cX1_init 1 = .ok (.invokespecial 3, 3) := by decide +kernel
theorem dX1_init_4 : decode cX1_init 4 = .ok (.aload_n 0, 1) := by decide +kernel
theorem dX1_init_5 : decode cX1_init 5 = .ok (.iconst 5, 1) := by decide +kernel
theorem dX1_init_6 : decode cX1_init 6 = .ok (.newarray .int, 2) := by decide +kernel
theorem dX1_init_8 : decode cX1_init 8 = .ok (.putfield 9, 3) := by decide +kernel
theorem dX1_init_11 : decode cX1_init 11 = .ok (.aload_n 0, 1) := by decide +kernel
theorem dX1_init_12 : decode cX1_init 12 = .ok (.iconst 5, 1) := by decide +kernel
theorem dX1_init_13 : decode cX1_init 13 = .ok (.newarray .int, 2) := by decide +kernel
theorem dX1_init_15 : decode cX1_init 15 = .ok (.putfield 15, 3) := by decide +kernel
theorem dX1_init_18 : decode cX1_init 18 = .ok (.aload_n 0, 1) := by decide +kernel
theorem dX1_init_19 : decode cX1_init 19 = .ok (.iconst 0, 1) := by decide +kernel
theorem dX1_init_20 : decode cX1_init 20 = .ok (.putfield 18, 3) := by decide +kernel
theorem dX1_init_23 : decode cX1_init 23 = .ok (.return_, 1) := by decide +kernel
theorem dX1_isFull_0 : decode cX1_isFull 0 = .ok (.aload_n 0, 1) := by decide +kernel
theorem dX1_isFull_1 : decode cX1_isFull 1 = .ok (.getfield 18, 3) := by decide +kernel
theorem dX1_isFull_4 : decode cX1_isFull 4 = .ok (.iconst 5, 1) := by decide +kernel
theorem dX1_isFull_5 : decode cX1_isFull 5 = .ok (.if_icmp .lt 7, 3) := by decide +kernel
theorem dX1_isFull_8 : decode cX1_isFull 8 = .ok (.iconst 1, 1) := by decide +kernel
theorem dX1_isFull_9 : decode cX1_isFull 9 = .ok (.goto 4, 3) := by decide +kernel
theorem dX1_isFull_12 : decode cX1_isFull 12 = .ok (.iconst 0, 1) := by decide +kernel
theorem dX1_isFull_13 : decode cX1_isFull 13 = .ok (.ireturn, 1) := by decide +kernel
theorem dX1_holds_0 : decode cX1_holds 0 = .ok (.iload_n 1, 1) := by decide +kernel
theorem dX1_holds_1 : decode cX1_holds 1 = .ok (.ifCond .lt 15, 3) := by decide +kernel
theorem dX1_holds_4 : decode cX1_holds 4 = .ok (.iload_n 1, 1) := by decide +kernel
theorem dX1_holds_5 : decode cX1_holds 5 = .ok (.aload_n 0, 1) := by decide +kernel
theorem dX1_holds_6 : decode cX1_holds 6 = .ok (.getfield 18, 3) := by decide +kernel
theorem dX1_holds_9 : decode cX1_holds 9 = .ok (.if_icmp .ge 7, 3) := by decide +kernel
theorem dX1_holds_12 : decode cX1_holds 12 = .ok (.iconst 1, 1) := by decide +kernel
theorem dX1_holds_13 : decode cX1_holds 13 = .ok (.goto 4, 3) := by decide +kernel
theorem dX1_holds_16 : decode cX1_holds 16 = .ok (.iconst 0, 1) := by decide +kernel
theorem dX1_holds_17 : decode cX1_holds 17 = .ok (.ireturn, 1) := by decide +kernel
set_option maxRecDepth 20000 in
theorem ggX1_add_X1_isFull : GoodIn wsX1_add wsX1_isFull := goodIn_r _ [8, 2, 9, 10, 11] (by decide +kernel) (by decide +kernel)
set_option maxRecDepth 20000 in
theorem gX1_add_X1_isFull : GoodIn wsX1_add (wsV RX1 22 RX1 yX1_isFull wsX1_isFull) := goodIn_app (goodIn_of _ (by decide +kernel)) ggX1_add_X1_isFull
theorem dX1_add_0 : decode cX1_add 0 = .ok (.aload_n 0, 1) := by decide +kernel
theorem dX1_add_1 : decode cX1_add 1 = .ok (.invokevirtual 22, 3) := by decide +kernel
theorem dX1_add_4 : decode cX1_add 4 = .ok (.ifCond .eq 5, 3) := by decide +kernel
theorem dX1_add_7 : decode cX1_add 7 = .ok (.iconst (-1), 1) := by decide +kernel
theorem dX1_add_8 : decode cX1_add 8 = .ok (.ireturn, 1) := by decide +kernel
theorem dX1_add_9 : decode cX1_add 9 = .ok (.aload_n 0, 1) := by decide +kernel
theorem dX1_add_10 : decode cX1_add 10 = .ok (.getfield 9, 3) := by decide +kernel
theorem dX1_add_13 : decode cX1_add 13 = .ok (.aload_n 0, 1) := by decide +kernel
theorem dX1_add_14 : decode cX1_add 14 = .ok (.getfield 18, 3) := by decide +kernel
theorem dX1_add_17 : decode cX1_add 17 = .ok (.iload_n 1, 1) := by decide +kernel
theorem dX1_add_18 : decode cX1_add 18 = .ok (.iastore, 1) := by decide +kernel
theorem dX1_add_19 : decode cX1_add 19 = .ok (.aload_n 0, 1) := by decide +kernel
theorem dX1_add_20 : decode cX1_add 20 = .ok (.getfield 15, 3) := by decide +kernel
theorem dX1_add_23 : decode cX1_add 23 = .ok (.aload_n 0, 1) := by decide +kernel
theorem dX1_add_24 : decode cX1_add 24 = .ok (.getfield 18, 3) := by decide +kernel
theorem dX1_add_27 : decode cX1_add 27 = .ok (.iload_n 2, 1) := by decide +kernel
theorem dX1_add_28 : decode cX1_add 28 = .ok (.iastore, 1) := by decide +kernel
theorem dX1_add_29 : decode cX1_add 29 = .ok (.aload_n 0, 1) := by decide +kernel
theorem dX1_add_30 : decode cX1_add 30 = .ok (.dup, 1) := by decide +kernel
theorem dX1_add_31 : decode cX1_add 31 = .ok (.getfield 18, 3) := by decide +kernel
theorem dX1_add_34 : decode cX1_add 34 = .ok (.iconst 1, 1) := by decide +kernel
theorem dX1_add_35 : decode cX1_add 35 = .ok (.iadd, 1) := by decide +kernel
theorem dX1_add_36 : decode cX1_add 36 = .ok (.putfield 18, 3) := by decide +kernel
theorem dX1_add_39 : decode cX1_add 39 = .ok (.aload_n 0, 1) := by decide +kernel
theorem dX1_add_40 : decode cX1_add 40 = .ok (.getfield 18, 3) := by decide +kernel
theorem dX1_add_43 : decode cX1_add 43 = .ok (.iconst 1, 1) := by decide +kernel
theorem dX1_add_44 : decode cX1_add 44 = .ok (.isub, 1) := by decide +kernel
theorem dX1_add_45 : decode cX1_add 45 = .ok (.ireturn, 1) := by decide +kernel
set_option maxRecDepth 20000 in
theorem ggX2_init_X1_init : GoodIn wsX2_init wsX1_init := goodIn_r _ [28, 29, 2, 3, 9, 30, 31, 32, 57, 58, 59] (by decide +kernel) (by decide +kernel)
set_option maxRecDepth 20000 in
theorem gX2_init_X1_init : GoodIn wsX2_init (wsX1_init) := ggX2_init_X1_init
set_option maxRecDepth 20000 in
theorem ggX2_init_X0_init : GoodIn wsX2_init wsX0_init := goodIn_r _ [35, 36, 2, 3, 9, 37, 38, 39, 40, 41, 42, 43, 44, 45, 46, 47, 48, 49, 50, 51, 52, 75, 76, 77, 78, 79, 80, 81, 82, 83, 84, 85, 86, 87, 88, 89] (by decide +kernel) (by decide +kernel)
set_option maxRecDepth 20000 in
theorem gX2_init_X0_init : GoodIn wsX2_init (wsX0_init) := ggX2_init_X0_init
set_option maxRecDepth 20000 in
theorem ggX2_init_J7_fill_53178 : GoodIn wsX2_init wsJ7_fill_53178 := goodIn_r _ [56] (by decide +kernel) (by decide +kernel)
set_option maxRecDepth 20000 in
theorem gX2_init_J7_fill_53178 : GoodIn wsX2_init (va_wsS RX2 65 yJ7_fill_53178 wsJ7_fill_53178) := goodIn_app (goodIn_of _ (by decide +kernel)) ggX2_init_J7_fill_53178
