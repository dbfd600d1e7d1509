theorem dX5_secondOther_9 : decode cX5_secondOther 9 = .ok (.iconst 2, 1) := by decide +kernel
theorem dX5_secondOther_10 : decode cX5_secondOther 10 = .ok (.ireturn, 1) := by decide +kernel
theorem dX6_init_0 : decode cX6_init 0 = .ok (.aload_n 0, 1) := by decide +kernel
theorem dX6_init_1 : decode cX6_init 1 = .ok (.invokespecial 3, 3) := by decide +kernel
theorem dX6_init_4 : decode cX6_init 4 = .ok (.aload_n 0, 1) := by decide +kernel
theorem dX6_init_5 : decode cX6_init 5 = .ok (.bipush 10, 2) := by decide +kernel
theorem dX6_init_7 : decode cX6_init 7 = .ok (.newarray .int, 2) := by decide +kernel
theorem dX6_init_9 : decode cX6_init 9 = .ok (.putfield 9, 3) := by decide +kernel
theorem dX6_init_12 : decode cX6_init 12 = .ok (.return_, 1) := by decide +kernel
set_option maxRecDepth 20000 in
theorem ggX6_measure_J7_fill_53178 : GoodIn wsX6_measure wsJ7_fill_53178 := goodIn_r _ [5] (by decide +kernel) (by decide +kernel)
set_option maxRecDepth 20000 in
theorem gX6_measure_J7_fill_53178 : GoodIn wsX6_measure (va_wsS RX6 15 yJ7_fill_53178 wsJ7_fill_53178) := goodIn_app (goodIn_of _ (by decide +kernel)) ggX6_measure_J7_fill_53178
set_option maxRecDepth 20000 in
theorem ggX6_measure_X7_has : GoodIn wsX6_measure wsX7_has := goodIn_r _ [8] (by decide +kernel) (by decide +kernel)
set_option maxRecDepth 20000 in
theorem gX6_measure_X7_has_n21 : GoodIn wsX6_measure (wsX7_has) := ggX6_measure_X7_has
theorem dX6_measure_0 : decode cX6_measure 0 = .ok (.aload_n 0, 1) := by decide +kernel
theorem dX6_measure_1 : decode cX6_measure 1 = .ok (.getfield 9, 3) := by decide +kernel
theorem dX6_measure_4 : decode cX6_measure 4 = .ok (.bipush (-6), 2) := by decide +kernel
theorem dX6_measure_6 : decode cX6_measure 6 = .ok (.invokestatic 15, 3) := by decide +kernel
theorem dX6_measure_9 : decode cX6_measure 9 = .ok (.iload_n 3, 1) := by decide +kernel
theorem dX6_measure_10 : decode cX6_measure 10 = .ok (.iconst 1, 1) := by decide +kernel
theorem dX6_measure_11 : decode cX6_measure 11 = .ok (.iload_n 1, 1) := by decide +kernel
theorem dX6_measure_12 : decode cX6_measure 12 = .ok (.ishl, 1) := by decide +kernel
theorem dX6_measure_13 : decode cX6_measure 13 = .ok (.iand, 1) := by decide +kernel
theorem dX6_measure_14 : decode cX6_measure 14 = .ok (.istore 4, 2) := by decide +kernel
theorem dX6_measure_16 : decode cX6_measure 16 = .ok (.iload 4, 2) := by decide +kernel
theorem dX6_measure_18 : decode cX6_measure 18 = .ok (.istore 5, 2) := by decide +kernel
theorem dX6_measure_20 : decode cX6_measure 20 = .ok (.iconst 0, 1) := by decide +kernel
theorem dX6_measure_21 : decode cX6_measure 21 = .ok (.istore 6, 2) := by decide +kernel
theorem dX6_measure_23 : decode cX6_measure 23 = .ok (.iload 6, 2) := by decide +kernel
theorem dX6_measure_25 : decode cX6_measure 25 = .ok (.bipush 10, 2) := by decide +kernel
theorem dX6_measure_27 : decode cX6_measure 27 = .ok (.if_icmp .ge 79, 3) := by decide +kernel
theorem dX6_measure_30 : decode cX6_measure 30 = .ok (.iload 4, 2) := by decide +kernel
theorem dX6_measure_32 : decode cX6_measure 32 = .ok (.ifCond .eq 74, 3) := by decide +kernel
theorem dX6_measure_35 : decode cX6_measure 35 = .ok (.iconst 0, 1) := by decide +kernel
theorem dX6_measure_36 : decode cX6_measure 36 = .ok (.istore 7, 2) := by decide +kernel
theorem dX6_measure_38 : decode cX6_measure 38 = .ok (.iconst 0, 1) := by decide +kernel
theorem dX6_measure_39 : decode cX6_measure 39 = .ok (.istore 8, 2) := by decide +kernel
theorem dX6_measure_41 : decode cX6_measure 41 = .ok (.iload 8, 2) := by decide +kernel
theorem dX6_measure_43 : decode cX6_measure 43 = .ok (.bipush 10, 2) := by decide +kernel
theorem dX6_measure_45 : decode cX6_measure 45 = .ok (.if_icmp .ge 37, 3) := by decide +kernel
theorem dX6_measure_48 : decode cX6_measure 48 = .ok (.iload 4, 2) := by decide +kernel
theorem dX6_measure_50 : decode cX6_measure 50 = .ok (.iload 8, 2) := by decide +kernel
theorem dX6_measure_52 : decode cX6_measure 52 = .ok (.invokestatic 21, 3) := by decide +kernel
theorem dX6_measure_55 : decode cX6_measure 55 = .ok (.ifCond .eq 21, 3) := by decide +kernel
theorem dX6_measure_58 : decode cX6_measure 58 = .ok (.aload_n 0, 1) := by decide +kernel
theorem dX6_measure_59 : decode cX6_measure 59 = .ok (.getfield 9, 3) := by decide +kernel
theorem dX6_measure_62 : decode cX6_measure 62 = .ok (.iload 8, 2) := by decide +kernel
theorem dX6_measure_64 : decode cX6_measure 64 = .ok (.iload 6, 2) := by decide +kernel
theorem dX6_measure_66 : decode cX6_measure 66 = .ok (.iastore, 1) := by decide +kernel
theorem dX6_measure_67 : decode cX6_measure 67 = .ok (.iload 7, 2) := by decide +kernel
theorem dX6_measure_69 : decode cX6_measure 69 = .ok (.aload_n 2, 1) := by decide +kernel
theorem dX6_measure_70 : decode cX6_measure 70 = .ok (.iload 8, 2) := by decide +kernel
theorem dX6_measure_72 : decode cX6_measure 72 = .ok (.iaload, 1) := by decide +kernel
theorem dX6_measure_73 : decode cX6_measure 73 = .ok (.ior, 1) := by decide +kernel
theorem dX6_measure_74 : decode cX6_measure 74 = .ok (.istore 7, 2) := by decide +kernel
theorem dX6_measure_76 : decode cX6_measure 76 = .ok (.iinc 8 1, 3) := by decide +kernel
theorem dX6_measure_79 : decode cX6_measure 79 = .ok (.goto (-38), 3) := by decide +kernel
theorem dX6_measure_82 : decode cX6_measure 82 = .ok (.iload 7, 2) := by decide +kernel
theorem dX6_measure_84 : decode cX6_measure 84 = .ok (.iload_n 3, 1) := by decide +kernel
theorem dX6_measure_85 : decode cX6_measure 85 = .ok (.iand, 1) := by decide +kernel
theorem dX6_measure_86 : decode cX6_measure 86 = .ok (.iload 5, 2) := by decide +kernel
theorem dX6_measure_88 : decode cX6_measure 88 = .ok (.iconst (-1), 1) := by decide +kernel
theorem dX6_measure_89 : decode cX6_measure 89 = .ok (.ixor, 1) := by decide +kernel
theorem dX6_measure_90 : decode cX6_measure 90 = .ok (.iand, 1) := by decide +kernel
theorem dX6_measure_91 : decode cX6_measure 91 = .ok (.istore 4, 2) := by decide +kernel
theorem dX6_measure_93 : decode cX6_measure 93 = .ok (.iload 5, 2) := by decide +kernel
theorem dX6_measure_95 : decode cX6_measure 95 = .ok (.iload 4, 2) := by decide +kernel
theorem dX6_measure_97 : decode cX6_measure 97 = .ok (.ior, 1) := by decide +kernel
theorem dX6_measure_98 : decode cX6_measure 98 = .ok (.istore 5, 2) := by decide +kernel
theorem dX6_measure_100 : decode cX6_measure 100 = .ok (.iinc 6 1, 3) := by decide +kernel
theorem dX6_measure_103 : decode cX6_measure 103 = .ok (.goto (-80), 3) := by decide +kernel
theorem dX6_measure_106 : decode cX6_measure 106 = .ok (.return_, 1) := by decide +kernel
set_option maxRecDepth 20000 in
theorem ggX6_nextFrom_X7_has : GoodIn wsX6_nextFrom wsX7_has := goodIn_r _ [4] (by decide +kernel) (by decide +kernel)
set_option maxRecDepth 20000 in
theorem gX6_nextFrom_X7_has_n21 : GoodIn wsX6_nextFrom (wsX7_has) := ggX6_nextFrom_X7_has
theorem dX6_nextFrom_0 : decode cX6_nextFrom 0 = .ok (.aload_n 0, 1) := by decide +kernel
theorem dX6_nextFrom_1 : decode cX6_nextFrom 1 = .ok (.getfield 9, 3) := by decide +kernel
theorem dX6_nextFrom_4 : decode cX6_nextFrom 4 = .ok (.iload_n 1, 1) := by decide +kernel
theorem dX6_nextFrom_5 : decode cX6_nextFrom 5 = .ok (.iaload, 1) := by decide +kernel
theorem dX6_nextFrom_6 : decode cX6_nextFrom 6 = .ok (.bipush (-6), 2) := by decide +kernel
theorem dX6_nextFrom_8 : decode cX6_nextFrom 8 = .ok (.if_icmp .eq 12, 3) := by decide +kernel
theorem dX6_nextFrom_11 : decode cX6_nextFrom 11 = .ok (.aload_n 0, 1) := by decide +kernel
theorem dX6_nextFrom_12 : decode cX6_nextFrom 12 = .ok (.getfield 9, 3) := by decide +kernel
theorem dX6_nextFrom_15 : decode cX6_nextFrom 15 = .ok (.iload_n 1, 1) := by decide +kernel
theorem dX6_nextFrom_16 : decode cX6_nextFrom 16 = .ok (.iaload, 1) := by decide +kernel
theorem dX6_nextFrom_17 : decode cX6_nextFrom 17 = .ok (.ifCond .ne 6, 3) := by decide +kernel
theorem dX6_nextFrom_20 : decode cX6_nextFrom 20 = .ok (.bipush (-6), 2) := by decide +kernel
theorem dX6_nextFrom_22 : decode cX6_nextFrom 22 = .ok (.ireturn, 1) := by decide +kernel
theorem dX6_nextFrom_23 : decode cX6_nextFrom 23 = .ok (.iconst 0, 1) := by decide +kernel
theorem dX6_nextFrom_24 : decode cX6_nextFrom 24 = .ok (.istore_n 3, 1) := by decide +kernel
theorem dX6_nextFrom_25 : decode cX6_nextFrom 25 = .ok (.iload_n 3, 1) := by decide +kernel
theorem dX6_nextFrom_26 : decode cX6_nextFrom 26 = .ok (.bipush 10, 2) := by decide +kernel
theorem dX6_nextFrom_28 : decode cX6_nextFrom 28 = .ok (.if_icmp .ge 38, 3) := by decide +kernel
theorem dX6_nextFrom_31 : decode cX6_nextFrom 31 = .ok (.aload_n 2, 1) := by decide +kernel
theorem dX6_nextFrom_32 : decode cX6_nextFrom 32 = .ok (.iload_n 1, 1) := by decide +kernel
theorem dX6_nextFrom_33 : decode cX6_nextFrom 33 = .ok (.iaload, 1) := by decide +kernel
theorem dX6_nextFrom_34 : decode cX6_nextFrom 34 = .ok (.iload_n 3, 1) := by decide +kernel
theorem dX6_nextFrom_35 : decode cX6_nextFrom 35 = .ok (.invokestatic 21, 3) := by decide +kernel
theorem dX6_nextFrom_38 : decode cX6_nextFrom 38 = .ok (.ifCond .eq 22, 3) := by decide +kernel
theorem dX6_nextFrom_41 : decode cX6_nextFrom 41 = .ok (.aload_n 0, 1) := by decide +kernel
theorem dX6_nextFrom_42 : decode cX6_nextFrom 42 = .ok (.getfield 9, 3) := by decide +kernel
theorem dX6_nextFrom_45 : decode cX6_nextFrom 45 = .ok (.iload_n 3, 1) := by decide +kernel
theorem dX6_nextFrom_46 : decode cX6_nextFrom 46 = .ok (.iaload, 1) := by decide +kernel
theorem dX6_nextFrom_47 : decode cX6_nextFrom 47 = .ok (.aload_n 0, 1) := by decide +kernel
theorem dX6_nextFrom_48 : decode cX6_nextFrom 48 = .ok (.getfield 9, 3) := by decide +kernel
theorem dX6_nextFrom_51 : decode cX6_nextFrom 51 = .ok (.iload_n 1, 1) := by decide +kernel
theorem dX6_nextFrom_52 : decode cX6_nextFrom 52 = .ok (.iaload, 1) := by decide +kernel
theorem dX6_nextFrom_53 : decode cX6_nextFrom 53 = .ok (.iconst 1, 1) := by decide +kernel
theorem dX6_nextFrom_54 : decode cX6_nextFrom 54 = .ok (.isub, 1) := by decide +kernel
theorem dX6_nextFrom_55 : decode cX6_nextFrom 55 = .ok (.if_icmp .ne 5, 3) := by decide +kernel
theorem dX6_nextFrom_58 : decode cX6_nextFrom 58 = .ok (.iload_n 3, 1) := by decide +kernel
theorem dX6_nextFrom_59 : decode cX6_nextFrom 59 = .ok (.ireturn, 1) := by decide +kernel
theorem dX6_nextFrom_60 : decode cX6_nextFrom 60 = .ok (.iinc 3 1, 3) := by decide +kernel
theorem dX6_nextFrom_63 : decode cX6_nextFrom 63 = .ok (.goto (-38), 3) := by decide +kernel
theorem dX6_nextFrom_66 : decode cX6_nextFrom 66 = .ok (.bipush (-6), 2) := by decide +kernel
theorem dX6_nextFrom_68 : decode cX6_nextFrom 68 = .ok (.ireturn, 1) := by decide +kernel
set_option maxRecDepth 20000 in
theorem ggX7_init_X1_init : GoodIn wsX7_init wsX1_init := goodIn_r _ [37, 38, 2, 3, 39, 40, 41, 42, 43, 44, 45, 46, 47, 48, 49, 50, 51, 52, 53, 54, 99, 100, 101, 102, 103, 104, 105, 106, 107, 108, 109, 110, 111, 112, 113, 114] (by decide +kernel) (by decide +kernel)
set_option maxRecDepth 20000 in
theorem gX7_init_X1_init : GoodIn wsX7_init (wsX1_init) := ggX7_init_X1_init
set_option maxRecDepth 20000 in
theorem ggX7_init_X2_init : GoodIn wsX7_init wsX2_init := goodIn_r _ [56, 57, 2, 3, 39, 58, 59, 60, 61, 124, 125, 126, 127, 128, 129, 130] (by decide +kernel) (by decide +kernel)
set_option maxRecDepth 20000 in
theorem gX7_init_X2_init_n26 : GoodIn wsX7_init (wsX2_init) := ggX7_init_X2_init
set_option maxRecDepth 20000 in
theorem ggX7_init_X0_init : GoodIn wsX7_init wsX0_init := goodIn_r _ [63, 64, 2, 3, 39, 65, 66, 131, 132, 133] (by decide +kernel) (by decide +kernel)
set_option maxRecDepth 20000 in
theorem gX7_init_X0_init_n33 : GoodIn wsX7_init (wsX0_init) := ggX7_init_X0_init
set_option maxRecDepth 20000 in
theorem ggX7_init_X4_init : GoodIn wsX7_init wsX4_init := goodIn_r _ [68, 69, 2, 3, 70, 5, 6, 71, 72, 73, 74, 75, 76, 16, 17, 77, 78, 36, 37, 38, 39, 40, 41, 42, 43, 44, 45, 46, 47, 48, 49, 50, 51, 52, 53, 54, 62, 63, 64, 65, 66, 99, 100, 101, 102, 103, 104, 105, 106, 107, 108, 109, 110, 111, 112, 113, 114, 134, 135, 136, 137, 138, 139, 131, 132, 133] (by decide +kernel) (by decide +kernel)
set_option maxRecDepth 20000 in
theorem gX7_init_X4_init_n40 : GoodIn wsX7_init (wsX4_init) := ggX7_init_X4_init
set_option maxRecDepth 20000 in
theorem ggX7_init_X6_init : GoodIn wsX7_init wsX6_init := goodIn_r _ [80, 81, 2, 3, 39, 82, 140] (by decide +kernel) (by decide +kernel)
set_option maxRecDepth 20000 in
theorem gX7_init_X6_init_n47 : GoodIn wsX7_init (wsX6_init) := ggX7_init_X6_init
set_option maxRecDepth 20000 in
theorem ggX7_init_X3_init : GoodIn wsX7_init wsX3_init := goodIn_r _ [84, 85, 2, 3, 86, 24, 25, 87, 39, 88, 89, 90, 91, 79, 80, 81, 82, 140, 141, 142, 143, 144, 145] (by decide +kernel) (by decide +kernel)
set_option maxRecDepth 20000 in
theorem gX7_init_X3_init_n54 : GoodIn wsX7_init (wsX3_init) := ggX7_init_X3_init
set_option maxRecDepth 20000 in
theorem ggX7_init_X5_init : GoodIn wsX7_init wsX5_init := goodIn_r _ [93, 94, 2, 3, 39, 95, 96, 97, 98, 146, 147, 148, 149, 150] (by decide +kernel) (by decide +kernel)
set_option maxRecDepth 20000 in
theorem gX7_init_X5_init_n61 : GoodIn wsX7_init (wsX5_init) := ggX7_init_X5_init
theorem dX7_init_0 : decode cX7_init 0 = .ok (.aload_n 0, 1) := by decide +kernel
theorem dX7_init_1 : decode cX7_init 1 = .ok (.invokespecial 1, 3) := by decide +kernel
theorem dX7_init_4 : decode cX7_init 4 = .ok (.aload_n 0, 1) := by decide +kernel
theorem dX7_init_5 : decode cX7_init 5 = .ok (.new 7, 3) := by decide +kernel
theorem dX7_init_8 : decode cX7_init 8 = .ok (.dup, 1) := by decide +kernel
theorem dX7_init_9 : decode cX7_init 9 = .ok (.invokespecial 9, 3) := by decide +kernel
theorem dX7_init_12 : decode cX7_init 12 = .ok (.putfield 10, 3) := by decide +kernel
theorem dX7_init_15 : decode cX7_init 15 = .ok (.aload_n 0, 1) := by decide +kernel
theorem dX7_init_16 : decode cX7_init 16 = .ok (.iconst 2, 1) := by decide +kernel
theorem dX7_init_17 : decode cX7_init 17 = .ok (.anewarray 7, 3) := by decide +kernel
theorem dX7_init_20 : decode cX7_init 20 = .ok (.putfield 16, 3) := by decide +kernel
theorem dX7_init_23 : decode cX7_init 23 = .ok (.iconst 0, 1) := by decide +kernel
theorem dX7_init_24 : decode cX7_init 24 = .ok (.istore_n 1, 1) := by decide +kernel
theorem dX7_init_25 : decode cX7_init 25 = .ok (.iload_n 1, 1) := by decide +kernel
theorem dX7_init_26 : decode cX7_init 26 = .ok (.iconst 2, 1) := by decide +kernel
theorem dX7_init_27 : decode cX7_init 27 = .ok (.if_icmp .ge 22, 3) := by decide +kernel
theorem dX7_init_30 : decode cX7_init 30 = .ok (.aload_n 0, 1) := by decide +kernel
theorem dX7_init_31 : decode cX7_init 31 = .ok (.getfield 16, 3) := by decide +kernel
theorem dX7_init_34 : decode cX7_init 34 = .ok (.iload_n 1, 1) := by decide +kernel
theorem dX7_init_35 : decode cX7_init 35 = .ok (.new 7, 3) := by decide +kernel
theorem dX7_init_38 : decode cX7_init 38 = .ok (.dup, 1) := by decide +kernel
theorem dX7_init_39 : decode cX7_init 39 = .ok (.invokespecial 9, 3) := by decide +kernel
theorem dX7_init_42 : decode cX7_init 42 = .ok (.aastore, 1) := by decide +kernel
theorem dX7_init_43 : decode cX7_init 43 = .ok (.iinc 1 1, 3) := by decide +kernel
theorem dX7_init_46 : decode cX7_init 46 = .ok (.goto (-21), 3) := by decide +kernel
theorem dX7_init_49 : decode cX7_init 49 = .ok (.aload_n 0, 1) := by decide +kernel
theorem dX7_init_50 : decode cX7_init 50 = .ok (.iconst 2, 1) := by decide +kernel
theorem dX7_init_51 : decode cX7_init 51 = .ok (.newarray .boolean, 2) := by decide +kernel
theorem dX7_init_53 : decode cX7_init 53 = .ok (.putfield 20, 3) := by decide +kernel
theorem dX7_init_56 : decode cX7_init 56 = .ok (.aload_n 0, 1) := by decide +kernel
theorem dX7_init_57 : decode cX7_init 57 = .ok (.new 24, 3) := by decide +kernel
theorem dX7_init_60 : decode cX7_init 60 = .ok (.dup, 1) := by decide +kernel
theorem dX7_init_61 : decode cX7_init 61 = .ok (.invokespecial 26, 3) := by decide +kernel
theorem dX7_init_64 : decode cX7_init 64 = .ok (.putfield 27, 3) := by decide +kernel
theorem dX7_init_67 : decode cX7_init 67 = .ok (.aload_n 0, 1) := by decide +kernel
theorem dX7_init_68 : decode cX7_init 68 = .ok (.new 31, 3) := by decide +kernel
theorem dX7_init_71 : decode cX7_init 71 = .ok (.dup, 1) := by decide +kernel
theorem dX7_init_72 : decode cX7_init 72 = .ok (.invokespecial 33, 3) := by decide +kernel
theorem dX7_init_75 : decode cX7_init 75 = .ok (.putfield 34, 3) := by decide +kernel
theorem dX7_init_78 : decode cX7_init 78 = .ok (.aload_n 0, 1) := by decide +kernel
theorem dX7_init_79 : decode cX7_init 79 = .ok (.new 38, 3) := by decide +kernel
theorem dX7_init_82 : decode cX7_init 82 = .ok (.dup, 1) := by decide +kernel
theorem dX7_init_83 : decode cX7_init 83 = .ok (.invokespecial 40, 3) := by decide +kernel
theorem dX7_init_86 : decode cX7_init 86 = .ok (.putfield 41, 3) := by decide +kernel
theorem dX7_init_89 : decode cX7_init 89 = .ok (.aload_n 0, 1) := by decide +kernel
theorem dX7_init_90 : decode cX7_init 90 = .ok (.new 45, 3) := by decide +kernel
theorem dX7_init_93 : decode cX7_init 93 = .ok (.dup, 1) := by decide +kernel
theorem dX7_init_94 : decode cX7_init 94 = .ok (.invokespecial 47, 3) := by decide +kernel
theorem dX7_init_97 : decode cX7_init 97 = .ok (.putfield 48, 3) := by decide +kernel
theorem dX7_init_100 : decode cX7_init 100 = .ok (.aload_n 0, 1) := by decide +kernel
theorem dX7_init_101 : decode cX7_init 101 = .ok (.new 52, 3) := by decide +kernel
theorem dX7_init_104 : decode cX7_init 104 = .ok (.dup, 1) := by decide +kernel
theorem dX7_init_105 : decode cX7_init 105 = .ok (.invokespecial 54, 3) := by decide +kernel
theorem dX7_init_108 : decode cX7_init 108 = .ok (.putfield 55, 3) := by decide +kernel
theorem dX7_init_111 : decode cX7_init 111 = .ok (.aload_n 0, 1) := by decide +kernel
theorem dX7_init_112 : decode cX7_init 112 = .ok (.new 59, 3) := by decide +kernel
theorem dX7_init_115 : decode cX7_init 115 = .ok (.dup, 1) := by decide +kernel
theorem dX7_init_116 : decode cX7_init 116 = .ok (.invokespecial 61, 3) := by decide +kernel
theorem dX7_init_119 : decode cX7_init 119 = .ok (.putfield 62, 3) := by decide +kernel
theorem dX7_init_122 : decode cX7_init 122 = .ok (.return_, 1) := by decide +kernel
set_option maxRecDepth 20000 in
theorem ggX7_passage_X7_isGallery : GoodIn wsX7_passage wsX7_isGallery := goodIn_r _ [5] (by decide +kernel) (by decide +kernel)
set_option maxRecDepth 20000 in
theorem gX7_passage_X7_isGallery : GoodIn wsX7_passage (va_wsS RX7 66 yX7_isGallery wsX7_isGallery) := goodIn_app (goodIn_of _ (by decide +kernel)) ggX7_passage_X7_isGallery
set_option maxRecDepth 20000 in
theorem ggX7_passage_X1_setPassage : GoodIn wsX7_passage wsX1_setPassage := goodIn_r _ [10, 11, 32, 33, 34, 35, 36, 37, 38, 39, 40, 41, 42, 43, 44, 45, 46, 47] (by decide +kernel) (by decide +kernel)
set_option maxRecDepth 20000 in
theorem gX7_passage_X1_setPassage : GoodIn wsX7_passage (wsV RX7 70 RX1 yX1_setPassage wsX1_setPassage) := goodIn_app (goodIn_of _ (by decide +kernel)) ggX7_passage_X1_setPassage
set_option maxRecDepth 20000 in
theorem ggX7_passage_X1_passageCount : GoodIn wsX7_passage wsX1_passageCount := goodIn_r _ [15, 11, 16, 17, 18, 19, 20, 21, 22, 32, 33, 34, 35, 36, 37, 38, 39, 40, 41, 42, 43, 44, 45, 46, 47] (by decide +kernel) (by decide +kernel)
set_option maxRecDepth 20000 in
theorem gX7_passage_X1_passageCount : GoodIn wsX7_passage (wsV RX7 74 RX1 yX1_passageCount wsX1_passageCount) := goodIn_app (goodIn_of _ (by decide +kernel)) ggX7_passage_X1_passageCount
theorem dX7_passage_0 : decode cX7_passage 0 = .ok (.iload_n 1, 1) := by decide +kernel
theorem dX7_passage_1 : decode cX7_passage 1 = .ok (.invokestatic 66, 3) := by decide +kernel
theorem dX7_passage_4 : decode cX7_passage 4 = .ok (.ifCond .eq 15, 3) := by decide +kernel
theorem dX7_passage_7 : decode cX7_passage 7 = .ok (.iload_n 2, 1) := by decide +kernel
theorem dX7_passage_8 : decode cX7_passage 8 = .ok (.invokestatic 66, 3) := by decide +kernel
theorem dX7_passage_11 : decode cX7_passage 11 = .ok (.ifCond .eq 8, 3) := by decide +kernel
theorem dX7_passage_14 : decode cX7_passage 14 = .ok (.iload_n 1, 1) := by decide +kernel
theorem dX7_passage_15 : decode cX7_passage 15 = .ok (.iload_n 2, 1) := by decide +kernel
theorem dX7_passage_16 : decode cX7_passage 16 = .ok (.if_icmp .ne 5, 3) := by decide +kernel
theorem dX7_passage_19 : decode cX7_passage 19 = .ok (.iconst (-1), 1) := by decide +kernel
theorem dX7_passage_20 : decode cX7_passage 20 = .ok (.ireturn, 1) := by decide +kernel
theorem dX7_passage_21 : decode cX7_passage 21 = .ok (.aload_n 0, 1) := by decide +kernel
theorem dX7_passage_22 : decode cX7_passage 22 = .ok (.getfield 10, 3) := by decide +kernel
theorem dX7_passage_25 : decode cX7_passage 25 = .ok (.iload_n 1, 1) := by decide +kernel
theorem dX7_passage_26 : decode cX7_passage 26 = .ok (.iload_n 2, 1) := by decide +kernel
theorem dX7_passage_27 : decode cX7_passage 27 = .ok (.iload_n 3, 1) := by decide +kernel
theorem dX7_passage_28 : decode cX7_passage 28 = .ok (.invokevirtual 70, 3) := by decide +kernel
theorem dX7_passage_31 : decode cX7_passage 31 = .ok (.aload_n 0, 1) := by decide +kernel
theorem dX7_passage_32 : decode cX7_passage 32 = .ok (.getfield 10, 3) := by decide +kernel
theorem dX7_passage_35 : decode cX7_passage 35 = .ok (.invokevirtual 74, 3) := by decide +kernel
theorem dX7_passage_38 : decode cX7_passage 38 = .ok (.ireturn, 1) := by decide +kernel
set_option maxRecDepth 20000 in
theorem ggX7_gallery_X7_isGallery : GoodIn wsX7_gallery wsX7_isGallery := goodIn_r _ [7] (by decide +kernel) (by decide +kernel)
set_option maxRecDepth 20000 in
theorem gX7_gallery_X7_isGallery : GoodIn wsX7_gallery (va_wsS RX7 66 yX7_isGallery wsX7_isGallery) := goodIn_app (goodIn_of _ (by decide +kernel)) ggX7_gallery_X7_isGallery
theorem dX7_gallery_0 : decode cX7_gallery 0 = .ok (.iload_n 1, 1) := by decide +kernel
theorem dX7_gallery_1 : decode cX7_gallery 1 = .ok (.invokestatic 66, 3) := by decide +kernel
theorem dX7_gallery_4 : decode cX7_gallery 4 = .ok (.ifCond .eq 10, 3) := by decide +kernel
theorem dX7_gallery_7 : decode cX7_gallery 7 = .ok (.iload_n 2, 1) := by decide +kernel
theorem dX7_gallery_8 : decode cX7_gallery 8 = .ok (.invokestatic 66, 3) := by decide +kernel
theorem dX7_gallery_11 : decode cX7_gallery 11 = .ok (.ifCond .ne 5, 3) := by decide +kernel
theorem dX7_gallery_14 : decode cX7_gallery 14 = .ok (.iconst (-1), 1) := by decide +kernel
theorem dX7_gallery_15 : decode cX7_gallery 15 = .ok (.ireturn, 1) := by decide +kernel
theorem dX7_gallery_16 : decode cX7_gallery 16 = .ok (.aload_n 0, 1) := by decide +kernel
theorem dX7_gallery_17 : decode cX7_gallery 17 = .ok (.getfield 10, 3) := by decide +kernel
theorem dX7_gallery_20 : decode cX7_gallery 20 = .ok (.getfield 78, 3) := by decide +kernel
theorem dX7_gallery_23 : decode cX7_gallery 23 = .ok (.iload_n 1, 1) := by decide +kernel
theorem dX7_gallery_24 : decode cX7_gallery 24 = .ok (.iaload, 1) := by decide +kernel
theorem dX7_gallery_25 : decode cX7_gallery 25 = .ok (.istore 4, 2) := by decide +kernel
theorem dX7_gallery_27 : decode cX7_gallery 27 = .ok (.aload_n 0, 1) := by decide +kernel
theorem dX7_gallery_28 : decode cX7_gallery 28 = .ok (.getfield 10, 3) := by decide +kernel
theorem dX7_gallery_31 : decode cX7_gallery 31 = .ok (.getfield 78, 3) := by decide +kernel
theorem dX7_gallery_34 : decode cX7_gallery 34 = .ok (.iload_n 1, 1) := by decide +kernel
theorem dX7_gallery_35 : decode cX7_gallery 35 = .ok (.iload_n 2, 1) := by decide +kernel
theorem dX7_gallery_36 : decode cX7_gallery 36 = .ok (.iastore, 1) := by decide +kernel
theorem dX7_gallery_37 : decode cX7_gallery 37 = .ok (.aload_n 0, 1) := by decide +kernel
theorem dX7_gallery_38 : decode cX7_gallery 38 = .ok (.getfield 10, 3) := by decide +kernel
theorem dX7_gallery_41 : decode cX7_gallery 41 = .ok (.iload_n 3, 1) := by decide +kernel
theorem dX7_gallery_42 : decode cX7_gallery 42 = .ok (.ifCond .eq 17, 3) := by decide +kernel
theorem dX7_gallery_45 : decode cX7_gallery 45 = .ok (.aload_n 0, 1) := by decide +kernel
theorem dX7_gallery_46 : decode cX7_gallery 46 = .ok (.getfield 10, 3) := by decide +kernel
theorem dX7_gallery_49 : decode cX7_gallery 49 = .ok (.getfield 82, 3) := by decide +kernel
theorem dX7_gallery_52 : decode cX7_gallery 52 = .ok (.iconst 1, 1) := by decide +kernel
theorem dX7_gallery_53 : decode cX7_gallery 53 = .ok (.iload_n 1, 1) := by decide +kernel
theorem dX7_gallery_54 : decode cX7_gallery 54 = .ok (.ishl, 1) := by decide +kernel
theorem dX7_gallery_55 : decode cX7_gallery 55 = .ok (.ior, 1) := by decide +kernel
theorem dX7_gallery_56 : decode cX7_gallery 56 = .ok (.goto 16, 3) := by decide +kernel
theorem dX7_gallery_59 : decode cX7_gallery 59 = .ok (.aload_n 0, 1) := by decide +kernel
theorem dX7_gallery_60 : decode cX7_gallery 60 = .ok (.getfield 10, 3) := by decide +kernel
theorem dX7_gallery_63 : decode cX7_gallery 63 = .ok (.getfield 82, 3) := by decide +kernel
theorem dX7_gallery_66 : decode cX7_gallery 66 = .ok (.iconst 1, 1) := by decide +kernel
theorem dX7_gallery_67 : decode cX7_gallery 67 = .ok (.iload_n 1, 1) := by decide +kernel
theorem dX7_gallery_68 : decode cX7_gallery 68 = .ok (.ishl, 1) := by decide +kernel
theorem dX7_gallery_69 : decode cX7_gallery 69 = .ok (.iconst (-1), 1) := by decide +kernel
theorem dX7_gallery_70 : decode cX7_gallery 70 = .ok (.ixor, 1) := by decide +kernel
theorem dX7_gallery_71 : decode cX7_gallery 71 = .ok (.iand, 1) := by decide +kernel
theorem dX7_gallery_72 : decode cX7_gallery 72 = .ok (.putfield 82, 3) := by decide +kernel
theorem dX7_gallery_75 : decode cX7_gallery 75 = .ok (.iload 4, 2) := by decide +kernel
theorem dX7_gallery_77 : decode cX7_gallery 77 = .ok (.ireturn, 1) := by decide +kernel
set_option maxRecDepth 20000 in
theorem ggX7_voice_X7_isVoice : GoodIn wsX7_voice wsX7_isVoice := goodIn_r _ [12] (by decide +kernel) (by decide +kernel)
set_option maxRecDepth 20000 in
theorem gX7_voice_X7_isVoice : GoodIn wsX7_voice (va_wsS RX7 86 yX7_isVoice wsX7_isVoice) := goodIn_app (goodIn_of _ (by decide +kernel)) ggX7_voice_X7_isVoice
set_option maxRecDepth 20000 in
theorem ggX7_voice_X7_isGallery : GoodIn wsX7_voice wsX7_isGallery := goodIn_r _ [15] (by decide +kernel) (by decide +kernel)
set_option maxRecDepth 20000 in
theorem gX7_voice_X7_isGallery : GoodIn wsX7_voice (va_wsS RX7 66 yX7_isGallery wsX7_isGallery) := goodIn_app (goodIn_of _ (by decide +kernel)) ggX7_voice_X7_isGallery
set_option maxRecDepth 20000 in
theorem ggX7_voice_J6_bitCount_0f7a4 : GoodIn wsX7_voice wsJ6_bitCount_0f7a4 := goodIn_r _ [19, 20, 21, 22] (by decide +kernel) (by decide +kernel)
set_option maxRecDepth 20000 in
theorem gX7_voice_J6_bitCount_0f7a4 : GoodIn wsX7_voice (va_wsS RX7 110 yJ6_bitCount_0f7a4 wsJ6_bitCount_0f7a4) := goodIn_app (goodIn_of _ (by decide +kernel)) ggX7_voice_J6_bitCount_0f7a4
theorem dX7_voice_0 : decode cX7_voice 0 = .ok (.iload_n 1, 1) := by decide +kernel
theorem dX7_voice_1 : decode cX7_voice 1 = .ok (.invokestatic 86, 3) := by decide +kernel
theorem dX7_voice_4 : decode cX7_voice 4 = .ok (.ifCond .eq 11, 3) := by decide +kernel
theorem dX7_voice_7 : decode cX7_voice 7 = .ok (.iload 5, 2) := by decide +kernel
theorem dX7_voice_9 : decode cX7_voice 9 = .ok (.invokestatic 66, 3) := by decide +kernel
theorem dX7_voice_12 : decode cX7_voice 12 = .ok (.ifCond .ne 5, 3) := by decide +kernel
theorem dX7_voice_15 : decode cX7_voice 15 = .ok (.iconst (-1), 1) := by decide +kernel
theorem dX7_voice_16 : decode cX7_voice 16 = .ok (.ireturn, 1) := by decide +kernel
theorem dX7_voice_17 : decode cX7_voice 17 = .ok (.iload_n 2, 1) := by decide +kernel
theorem dX7_voice_18 : decode cX7_voice 18 = .ok (.ifCond .lt 26, 3) := by decide +kernel
theorem dX7_voice_21 : decode cX7_voice 21 = .ok (.iload_n 3, 1) := by decide +kernel
theorem dX7_voice_22 : decode cX7_voice 22 = .ok (.bipush 24, 2) := by decide +kernel
theorem dX7_voice_24 : decode cX7_voice 24 = .ok (.if_icmp .ge 20, 3) := by decide +kernel
theorem dX7_voice_27 : decode cX7_voice 27 = .ok (.iload_n 2, 1) := by decide +kernel
theorem dX7_voice_28 : decode cX7_voice 28 = .ok (.iload_n 3, 1) := by decide +kernel
theorem dX7_voice_29 : decode cX7_voice 29 = .ok (.if_icmp .gt 15, 3) := by decide +kernel
theorem dX7_voice_32 : decode cX7_voice 32 = .ok (.iload 4, 2) := by decide +kernel
theorem dX7_voice_34 : decode cX7_voice 34 = .ok (.ifCond .lt 10, 3) := by decide +kernel
theorem dX7_voice_37 : decode cX7_voice 37 = .ok (.iload 4, 2) := by decide +kernel
theorem dX7_voice_39 : decode cX7_voice 39 = .ok (.bipush 99, 2) := by decide +kernel
theorem dX7_voice_41 : decode cX7_voice 41 = .ok (.if_icmp .le 6, 3) := by decide +kernel
theorem dX7_voice_44 : decode cX7_voice 44 = .ok (.bipush (-2), 2) := by decide +kernel
theorem dX7_voice_46 : decode cX7_voice 46 = .ok (.ireturn, 1) := by decide +kernel
theorem dX7_voice_47 : decode cX7_voice 47 = .ok (.aload_n 0, 1) := by decide +kernel
theorem dX7_voice_48 : decode cX7_voice 48 = .ok (.getfield 10, 3) := by decide +kernel
theorem dX7_voice_51 : decode cX7_voice 51 = .ok (.dup, 1) := by decide +kernel
theorem dX7_voice_52 : decode cX7_voice 52 = .ok (.getfield 89, 3) := by decide +kernel
theorem dX7_voice_55 : decode cX7_voice 55 = .ok (.iconst 1, 1) := by decide +kernel
theorem dX7_voice_56 : decode cX7_voice 56 = .ok (.iload_n 1, 1) := by decide +kernel
theorem dX7_voice_57 : decode cX7_voice 57 = .ok (.ishl, 1) := by decide +kernel
theorem dX7_voice_58 : decode cX7_voice 58 = .ok (.ior, 1) := by decide +kernel
theorem dX7_voice_59 : decode cX7_voice 59 = .ok (.putfield 89, 3) := by decide +kernel
theorem dX7_voice_62 : decode cX7_voice 62 = .ok (.aload_n 0, 1) := by decide +kernel
theorem dX7_voice_63 : decode cX7_voice 63 = .ok (.getfield 10, 3) := by decide +kernel
theorem dX7_voice_66 : decode cX7_voice 66 = .ok (.getfield 92, 3) := by decide +kernel
theorem dX7_voice_69 : decode cX7_voice 69 = .ok (.iload_n 1, 1) := by decide +kernel
theorem dX7_voice_70 : decode cX7_voice 70 = .ok (.iload_n 2, 1) := by decide +kernel
theorem dX7_voice_71 : decode cX7_voice 71 = .ok (.iastore, 1) := by decide +kernel
theorem dX7_voice_72 : decode cX7_voice 72 = .ok (.aload_n 0, 1) := by decide +kernel
theorem dX7_voice_73 : decode cX7_voice 73 = .ok (.getfield 10, 3) := by decide +kernel
theorem dX7_voice_76 : decode cX7_voice 76 = .ok (.getfield 95, 3) := by decide +kernel
theorem dX7_voice_79 : decode cX7_voice 79 = .ok (.iload_n 1, 1) := by decide +kernel
theorem dX7_voice_80 : decode cX7_voice 80 = .ok (.iload_n 3, 1) := by decide +kernel
theorem dX7_voice_81 : decode cX7_voice 81 = .ok (.iastore, 1) := by decide +kernel
theorem dX7_voice_82 : decode cX7_voice 82 = .ok (.aload_n 0, 1) := by decide +kernel
theorem dX7_voice_83 : decode cX7_voice 83 = .ok (.getfield 10, 3) := by decide +kernel
theorem dX7_voice_86 : decode cX7_voice 86 = .ok (.getfield 98, 3) := by decide +kernel
theorem dX7_voice_89 : decode cX7_voice 89 = .ok (.iload_n 1, 1) := by decide +kernel
theorem dX7_voice_90 : decode cX7_voice 90 = .ok (.iload 4, 2) := by decide +kernel
theorem dX7_voice_92 : decode cX7_voice 92 = .ok (.iastore, 1) := by decide +kernel
theorem dX7_voice_93 : decode cX7_voice 93 = .ok (.aload_n 0, 1) := by decide +kernel
theorem dX7_voice_94 : decode cX7_voice 94 = .ok (.getfield 10, 3) := by decide +kernel
theorem dX7_voice_97 : decode cX7_voice 97 = .ok (.getfield 101, 3) := by decide +kernel
theorem dX7_voice_100 : decode cX7_voice 100 = .ok (.iload_n 1, 1) := by decide +kernel
theorem dX7_voice_101 : decode cX7_voice 101 = .ok (.iload 4, 2) := by decide +kernel
theorem dX7_voice_103 : decode cX7_voice 103 = .ok (.iastore, 1) := by decide +kernel
theorem dX7_voice_104 : decode cX7_voice 104 = .ok (.aload_n 0, 1) := by decide +kernel
theorem dX7_voice_105 : decode cX7_voice 105 = .ok (.getfield 10, 3) := by decide +kernel
theorem dX7_voice_108 : decode cX7_voice 108 = .ok (.getfield 104, 3) := by decide +kernel
theorem dX7_voice_111 : decode cX7_voice 111 = .ok (.iload_n 1, 1) := by decide +kernel
theorem dX7_voice_112 : decode cX7_voice 112 = .ok (.iload 5, 2) := by decide +kernel
theorem dX7_voice_114 : decode cX7_voice 114 = .ok (.iastore, 1) := by decide +kernel
theorem dX7_voice_115 : decode cX7_voice 115 = .ok (.aload_n 0, 1) := by decide +kernel
theorem dX7_voice_116 : decode cX7_voice 116 = .ok (.getfield 10, 3) := by decide +kernel
theorem dX7_voice_119 : decode cX7_voice 119 = .ok (.getfield 107, 3) := by decide +kernel
theorem dX7_voice_122 : decode cX7_voice 122 = .ok (.iload_n 1, 1) := by decide +kernel
theorem dX7_voice_123 : decode cX7_voice 123 = .ok (.iconst (-1), 1) := by decide +kernel
theorem dX7_voice_124 : decode cX7_voice 124 = .ok (.iastore, 1) := by decide +kernel
theorem dX7_voice_125 : decode cX7_voice 125 = .ok (.aload_n 0, 1) := by decide +kernel
theorem dX7_voice_126 : decode cX7_voice 126 = .ok (.getfield 10, 3) := by decide +kernel
theorem dX7_voice_129 : decode cX7_voice 129 = .ok (.getfield 89, 3) := by decide +kernel
theorem dX7_voice_132 : decode cX7_voice 132 = .ok (.invokestatic 110, 3) := by decide +kernel
theorem dX7_voice_135 : decode cX7_voice 135 = .ok (.ireturn, 1) := by decide +kernel
set_option maxRecDepth 20000 in
theorem ggX7_breath_X1_isThere : GoodIn wsX7_breath wsX1_isThere := goodIn_r _ [9, 10, 11, 12, 13, 14, 15, 25, 26, 27, 28, 29, 30, 31, 32, 33, 34, 35, 36, 37, 38, 39, 40] (by decide +kernel) (by decide +kernel)
set_option maxRecDepth 20000 in
theorem gX7_breath_X1_isThere : GoodIn wsX7_breath (wsV RX7 116 RX1 yX1_isThere wsX1_isThere) := goodIn_app (goodIn_of _ (by decide +kernel)) ggX7_breath_X1_isThere
theorem dX7_breath_0 : decode cX7_breath 0 = .ok (.aload_n 0, 1) := by decide +kernel
theorem dX7_breath_1 : decode cX7_breath 1 = .ok (.getfield 10, 3) := by decide +kernel
theorem dX7_breath_4 : decode cX7_breath 4 = .ok (.iload_n 1, 1) := by decide +kernel
theorem dX7_breath_5 : decode cX7_breath 5 = .ok (.invokevirtual 116, 3) := by decide +kernel
theorem dX7_breath_8 : decode cX7_breath 8 = .ok (.ifCond .ne 5, 3) := by decide +kernel
theorem dX7_breath_11 : decode cX7_breath 11 = .ok (.iconst (-1), 1) := by decide +kernel
theorem dX7_breath_12 : decode cX7_breath 12 = .ok (.ireturn, 1) := by decide +kernel
theorem dX7_breath_13 : decode cX7_breath 13 = .ok (.iload_n 2, 1) := by decide +kernel
theorem dX7_breath_14 : decode cX7_breath 14 = .ok (.ifCond .lt 16, 3) := by decide +kernel
theorem dX7_breath_17 : decode cX7_breath 17 = .ok (.iload_n 2, 1) := by decide +kernel
theorem dX7_breath_18 : decode cX7_breath 18 = .ok (.aload_n 0, 1) := by decide +kernel
theorem dX7_breath_19 : decode cX7_breath 19 = .ok (.getfield 10, 3) := by decide +kernel
theorem dX7_breath_22 : decode cX7_breath 22 = .ok (.getfield 98, 3) := by decide +kernel
theorem dX7_breath_25 : decode cX7_breath 25 = .ok (.iload_n 1, 1) := by decide +kernel
theorem dX7_breath_26 : decode cX7_breath 26 = .ok (.iaload, 1) := by decide +kernel
theorem dX7_breath_27 : decode cX7_breath 27 = .ok (.if_icmp .le 6, 3) := by decide +kernel
theorem dX7_breath_30 : decode cX7_breath 30 = .ok (.bipush (-2), 2) := by decide +kernel
theorem dX7_breath_32 : decode cX7_breath 32 = .ok (.ireturn, 1) := by decide +kernel
theorem dX7_breath_33 : decode cX7_breath 33 = .ok (.aload_n 0, 1) := by decide +kernel
theorem dX7_breath_34 : decode cX7_breath 34 = .ok (.getfield 10, 3) := by decide +kernel
theorem dX7_breath_37 : decode cX7_breath 37 = .ok (.getfield 101, 3) := by decide +kernel
theorem dX7_breath_40 : decode cX7_breath 40 = .ok (.iload_n 1, 1) := by decide +kernel
theorem dX7_breath_41 : decode cX7_breath 41 = .ok (.iaload, 1) := by decide +kernel
theorem dX7_breath_42 : decode cX7_breath 42 = .ok (.istore_n 3, 1) := by decide +kernel
theorem dX7_breath_43 : decode cX7_breath 43 = .ok (.aload_n 0, 1) := by decide +kernel
theorem dX7_breath_44 : decode cX7_breath 44 = .ok (.getfield 10, 3) := by decide +kernel
theorem dX7_breath_47 : decode cX7_breath 47 = .ok (.getfield 101, 3) := by decide +kernel
theorem dX7_breath_50 : decode cX7_breath 50 = .ok (.iload_n 1, 1) := by decide +kernel
theorem dX7_breath_51 : decode cX7_breath 51 = .ok (.iload_n 2, 1) := by decide +kernel
theorem dX7_breath_52 : decode cX7_breath 52 = .ok (.iastore, 1) := by decide +kernel
theorem dX7_breath_53 : decode cX7_breath 53 = .ok (.iload_n 2, 1) := by decide +kernel
theorem dX7_breath_54 : decode cX7_breath 54 = .ok (.ifCond .ne 13, 3) := by decide +kernel
theorem dX7_breath_57 : decode cX7_breath 57 = .ok (.aload_n 0, 1) := by decide +kernel
theorem dX7_breath_58 : decode cX7_breath 58 = .ok (.getfield 10, 3) := by decide +kernel
theorem dX7_breath_61 : decode cX7_breath 61 = .ok (.getfield 107, 3) := by decide +kernel
theorem dX7_breath_64 : decode cX7_breath 64 = .ok (.iload_n 1, 1) := by decide +kernel
theorem dX7_breath_65 : decode cX7_breath 65 = .ok (.iconst (-1), 1) := by decide +kernel
theorem dX7_breath_66 : decode cX7_breath 66 = .ok (.iastore, 1) := by decide +kernel
theorem dX7_breath_67 : decode cX7_breath 67 = .ok (.iload_n 3, 1) := by decide +kernel
theorem dX7_breath_68 : decode cX7_breath 68 = .ok (.ireturn, 1) := by decide +kernel
set_option maxRecDepth 20000 in
theorem ggX7_leave_X1_isThere : GoodIn wsX7_leave wsX1_isThere := goodIn_r _ [8, 9, 10, 11, 12, 13, 14, 31, 32, 33, 34, 35, 36, 37, 38, 39, 40, 41, 42, 43, 44, 45, 46] (by decide +kernel) (by decide +kernel)
set_option maxRecDepth 20000 in
theorem gX7_leave_X1_isThere : GoodIn wsX7_leave (wsV RX7 116 RX1 yX1_isThere wsX1_isThere) := goodIn_app (goodIn_of _ (by decide +kernel)) ggX7_leave_X1_isThere
set_option maxRecDepth 20000 in
theorem ggX7_leave_J6_bitCount_0f7a4 : GoodIn wsX7_leave wsJ6_bitCount_0f7a4 := goodIn_r _ [18, 19, 20, 21] (by decide +kernel) (by decide +kernel)
set_option maxRecDepth 20000 in
theorem gX7_leave_J6_bitCount_0f7a4 : GoodIn wsX7_leave (va_wsS RX7 110 yJ6_bitCount_0f7a4 wsJ6_bitCount_0f7a4) := goodIn_app (goodIn_of _ (by decide +kernel)) ggX7_leave_J6_bitCount_0f7a4
theorem dX7_leave_0 : decode cX7_leave 0 = .ok (.aload_n 0, 1) := by decide +kernel
theorem dX7_leave_1 : decode cX7_leave 1 = .ok (.getfield 10, 3) := by decide +kernel
theorem dX7_leave_4 : decode cX7_leave 4 = .ok (.iload_n 1, 1) := by decide +kernel
theorem dX7_leave_5 : decode cX7_leave 5 = .ok (.invokevirtual 116, 3) := by decide +kernel
theorem dX7_leave_8 : decode cX7_leave 8 = .ok (.ifCond .ne 5, 3) := by decide +kernel
theorem dX7_leave_11 : decode cX7_leave 11 = .ok (.iconst (-1), 1) := by decide +kernel
theorem dX7_leave_12 : decode cX7_leave 12 = .ok (.ireturn, 1) := by decide +kernel
theorem dX7_leave_13 : decode cX7_leave 13 = .ok (.aload_n 0, 1) := by decide +kernel
theorem dX7_leave_14 : decode cX7_leave 14 = .ok (.getfield 10, 3) := by decide +kernel
theorem dX7_leave_17 : decode cX7_leave 17 = .ok (.dup, 1) := by decide +kernel
theorem dX7_leave_18 : decode cX7_leave 18 = .ok (.getfield 89, 3) := by decide +kernel
theorem dX7_leave_21 : decode cX7_leave 21 = .ok (.iconst 1, 1) := by decide +kernel
theorem dX7_leave_22 : decode cX7_leave 22 = .ok (.iload_n 1, 1) := by decide +kernel
theorem dX7_leave_23 : decode cX7_leave 23 = .ok (.ishl, 1) := by decide +kernel
theorem dX7_leave_24 : decode cX7_leave 24 = .ok (.iconst (-1), 1) := by decide +kernel
theorem dX7_leave_25 : decode cX7_leave 25 = .ok (.ixor, 1) := by decide +kernel
theorem dX7_leave_26 : decode cX7_leave 26 = .ok (.iand, 1) := by decide +kernel
theorem dX7_leave_27 : decode cX7_leave 27 = .ok (.putfield 89, 3) := by decide +kernel
theorem dX7_leave_30 : decode cX7_leave 30 = .ok (.aload_n 0, 1) := by decide +kernel
theorem dX7_leave_31 : decode cX7_leave 31 = .ok (.getfield 10, 3) := by decide +kernel
theorem dX7_leave_34 : decode cX7_leave 34 = .ok (.getfield 107, 3) := by decide +kernel
theorem dX7_leave_37 : decode cX7_leave 37 = .ok (.iload_n 1, 1) := by decide +kernel
theorem dX7_leave_38 : decode cX7_leave 38 = .ok (.iconst (-1), 1) := by decide +kernel
theorem dX7_leave_39 : decode cX7_leave 39 = .ok (.iastore, 1) := by decide +kernel
theorem dX7_leave_40 : decode cX7_leave 40 = .ok (.aload_n 0, 1) := by decide +kernel
theorem dX7_leave_41 : decode cX7_leave 41 = .ok (.getfield 10, 3) := by decide +kernel
theorem dX7_leave_44 : decode cX7_leave 44 = .ok (.getfield 89, 3) := by decide +kernel
theorem dX7_leave_47 : decode cX7_leave 47 = .ok (.invokestatic 110, 3) := by decide +kernel
theorem dX7_leave_50 : decode cX7_leave 50 = .ok (.ireturn, 1) := by decide +kernel
theorem dX7_say_0 : decode cX7_say 0 = .ok (.iload_n 1, 1) := by decide +kernel
theorem dX7_say_1 : decode cX7_say 1 = .ok (.bipush 33, 2) := by decide +kernel
theorem dX7_say_3 : decode cX7_say 3 = .ok (.if_icmp .lt 9, 3) := by decide +kernel
theorem dX7_say_6 : decode cX7_say 6 = .ok (.iload_n 1, 1) := by decide +kernel
theorem dX7_say_7 : decode cX7_say 7 = .ok (.bipush 126, 2) := by decide +kernel
theorem dX7_say_9 : decode cX7_say 9 = .ok (.if_icmp .le 6, 3) := by decide +kernel
theorem dX7_say_12 : decode cX7_say 12 = .ok (.bipush (-2), 2) := by decide +kernel
theorem dX7_say_14 : decode cX7_say 14 = .ok (.ireturn, 1) := by decide +kernel
theorem dX7_say_15 : decode cX7_say 15 = .ok (.aload_n 0, 1) := by decide +kernel
theorem dX7_say_16 : decode cX7_say 16 = .ok (.getfield 27, 3) := by decide +kernel
theorem dX7_say_19 : decode cX7_say 19 = .ok (.getfield 119, 3) := by decide +kernel
theorem dX7_say_22 : decode cX7_say 22 = .ok (.bipush 60, 2) := by decide +kernel
theorem dX7_say_24 : decode cX7_say 24 = .ok (.if_icmp .lt 6, 3) := by decide +kernel
theorem dX7_say_27 : decode cX7_say 27 = .ok (.bipush (-4), 2) := by decide +kernel
theorem dX7_say_29 : decode cX7_say 29 = .ok (.ireturn, 1) := by decide +kernel
theorem dX7_say_30 : decode cX7_say 30 = .ok (.aload_n 0, 1) := by decide +kernel
theorem dX7_say_31 : decode cX7_say 31 = .ok (.getfield 27, 3) := by decide +kernel
theorem dX7_say_34 : decode cX7_say 34 = .ok (.getfield 122, 3) := by decide +kernel
theorem dX7_say_37 : decode cX7_say 37 = .ok (.aload_n 0, 1) := by decide +kernel
theorem dX7_say_38 : decode cX7_say 38 = .ok (.getfield 27, 3) := by decide +kernel
theorem dX7_say_41 : decode cX7_say 41 = .ok (.getfield 119, 3) := by decide +kernel
theorem dX7_say_44 : decode cX7_say 44 = .ok (.iload_n 1, 1) := by decide +kernel
theorem dX7_say_45 : decode cX7_say 45 = .ok (.iastore, 1) := by decide +kernel
theorem dX7_say_46 : decode cX7_say 46 = .ok (.aload_n 0, 1) := by decide +kernel
theorem dX7_say_47 : decode cX7_say 47 = .ok (.getfield 27, 3) := by decide +kernel
theorem dX7_say_50 : decode cX7_say 50 = .ok (.dup, 1) := by decide +kernel
theorem dX7_say_51 : decode cX7_say 51 = .ok (.getfield 119, 3) := by decide +kernel
theorem dX7_say_54 : decode cX7_say 54 = .ok (.iconst 1, 1) := by decide +kernel
theorem dX7_say_55 : decode cX7_say 55 = .ok (.iadd, 1) := by decide +kernel
theorem dX7_say_56 : decode cX7_say 56 = .ok (.putfield 119, 3) := by decide +kernel
theorem dX7_say_59 : decode cX7_say 59 = .ok (.aload_n 0, 1) := by decide +kernel
theorem dX7_say_60 : decode cX7_say 60 = .ok (.getfield 27, 3) := by decide +kernel
theorem dX7_say_63 : decode cX7_say 63 = .ok (.getfield 119, 3) := by decide +kernel
theorem dX7_say_66 : decode cX7_say 66 = .ok (.ireturn, 1) := by decide +kernel
theorem dX7_wipe_0 : decode cX7_wipe 0 = .ok (.aload_n 0, 1) := by decide +kernel
theorem dX7_wipe_1 : decode cX7_wipe 1 = .ok (.getfield 27, 3) := by decide +kernel
theorem dX7_wipe_4 : decode cX7_wipe 4 = .ok (.getfield 119, 3) := by decide +kernel
theorem dX7_wipe_7 : decode cX7_wipe 7 = .ok (.istore_n 1, 1) := by decide +kernel
theorem dX7_wipe_8 : decode cX7_wipe 8 = .ok (.aload_n 0, 1) := by decide +kernel
theorem dX7_wipe_9 : decode cX7_wipe 9 = .ok (.getfield 27, 3) := by decide +kernel
theorem dX7_wipe_12 : decode cX7_wipe 12 = .ok (.iconst 0, 1) := by decide +kernel
theorem dX7_wipe_13 : decode cX7_wipe 13 = .ok (.putfield 119, 3) := by decide +kernel
theorem dX7_wipe_16 : decode cX7_wipe 16 = .ok (.iload_n 1, 1) := by decide +kernel
theorem dX7_wipe_17 : decode cX7_wipe 17 = .ok (.ireturn, 1) := by decide +kernel
set_option maxRecDepth 20000 in
theorem ggX7_fault_X2_readActs : GoodIn wsX7_fault wsX2_readActs := goodIn_r _ [6, 7, 8, 9, 10, 11, 12, 5, 13, 14, 15, 16, 17, 18, 19, 20, 21, 22, 23, 24, 25, 26, 27, 28, 29, 30, 31, 32, 33, 43, 44, 45, 46, 47, 48, 49] (by decide +kernel) (by decide +kernel)
set_option maxRecDepth 20000 in
theorem gX7_fault_X2_readActs : GoodIn wsX7_fault (wsV RX7 125 RX2 yX2_readActs wsX2_readActs) := goodIn_app (goodIn_of _ (by decide +kernel)) ggX7_fault_X2_readActs
theorem dX7_fault_0 : decode cX7_fault 0 = .ok (.aload_n 0, 1) := by decide +kernel
theorem dX7_fault_1 : decode cX7_fault 1 = .ok (.getfield 27, 3) := by decide +kernel
theorem dX7_fault_4 : decode cX7_fault 4 = .ok (.invokevirtual 125, 3) := by decide +kernel
theorem dX7_fault_7 : decode cX7_fault 7 = .ok (.ireturn, 1) := by decide +kernel
set_option maxRecDepth 20000 in
theorem ggX7_judge_X2_readActs : GoodIn wsX7_judge wsX2_readActs := goodIn_r _ [10, 11, 12, 13, 14, 15, 16, 9, 17, 18, 19, 20, 21, 22, 23, 24, 25, 26, 27, 28, 29, 30, 31, 32, 33, 34, 35, 36, 37, 196, 197, 198, 199, 200, 201, 202] (by decide +kernel) (by decide +kernel)
set_option maxRecDepth 20000 in
theorem gX7_judge_X2_readActs : GoodIn wsX7_judge (wsV RX7 125 RX2 yX2_readActs wsX2_readActs) := goodIn_app (goodIn_of _ (by decide +kernel)) ggX7_judge_X2_readActs
set_option maxRecDepth 20000 in
theorem ggX7_judge_X4_tryActs : GoodIn wsX7_judge wsX4_tryActs := goodIn_r _ [42, 43, 44, 45, 46, 47, 48, 49, 50, 51, 52, 53, 54, 55, 56, 57, 58, 59, 60, 61, 62, 63, 64, 65, 66, 67, 68, 69, 70, 71, 72, 73, 74, 75, 76, 77, 78, 79, 80, 81, 82, 83, 84, 85, 86, 87, 88, 89, 90, 91, 92, 93, 94, 95, 96, 97, 98, 99, 100, 101, 102, 103, 104, 105, 106, 107, 108, 109, 110, 111, 112, 113, 114, 115, 116, 117, 118, 119, 120, 121, 122, 123, 41, 124, 125, 126, 127, 128, 129, 130, 131, 132, 133, 134, 135, 136, 137, 138, 139, 140, 141, 142, 143, 144, 145, 146, 147, 148, 149, 150, 151, 152, 153, 154, 155, 156, 157, 158, 159, 160, 161, 162, 163, 164, 165, 166, 167, 168, 169, 170, 171, 172, 173, 174, 175, 176, 177, 178, 179, 180, 190, 191, 192, 193, 194, 195, 196, 197, 198, 199, 200, 201, 202, 203, 204, 205, 206, 207, 208, 209, 210, 211, 212, 213, 214, 215, 216, 217, 218, 219, 220, 221] (by decide +kernel) (by decide +kernel)
set_option maxRecDepth 20000 in
theorem gX7_judge_X4_tryActs : GoodIn wsX7_judge (wsV RX7 128 RX4 yX4_tryActs wsX4_tryActs) := goodIn_app (goodIn_of _ (by decide +kernel)) ggX7_judge_X4_tryActs
theorem dX7_judge_0 : decode cX7_judge 0 = .ok (.iload_n 1, 1) := by decide +kernel
theorem dX7_judge_1 : decode cX7_judge 1 = .ok (.ifCond .lt 8, 3) := by decide +kernel
theorem dX7_judge_4 : decode cX7_judge 4 = .ok (.iload_n 1, 1) := by decide +kernel
theorem dX7_judge_5 : decode cX7_judge 5 = .ok (.iconst 1, 1) := by decide +kernel
theorem dX7_judge_6 : decode cX7_judge 6 = .ok (.if_icmp .le 6, 3) := by decide +kernel
theorem dX7_judge_9 : decode cX7_judge 9 = .ok (.bipush (-2), 2) := by decide +kernel
theorem dX7_judge_11 : decode cX7_judge 11 = .ok (.ireturn, 1) := by decide +kernel
theorem dX7_judge_12 : decode cX7_judge 12 = .ok (.aload_n 0, 1) := by decide +kernel
theorem dX7_judge_13 : decode cX7_judge 13 = .ok (.getfield 27, 3) := by decide +kernel
theorem dX7_judge_16 : decode cX7_judge 16 = .ok (.invokevirtual 125, 3) := by decide +kernel
theorem dX7_judge_19 : decode cX7_judge 19 = .ok (.bipush (-6), 2) := by decide +kernel
theorem dX7_judge_21 : decode cX7_judge 21 = .ok (.if_icmp .eq 6, 3) := by decide +kernel
theorem dX7_judge_24 : decode cX7_judge 24 = .ok (.bipush (-5), 2) := by decide +kernel
theorem dX7_judge_26 : decode cX7_judge 26 = .ok (.ireturn, 1) := by decide +kernel
theorem dX7_judge_27 : decode cX7_judge 27 = .ok (.aload_n 0, 1) := by decide +kernel
theorem dX7_judge_28 : decode cX7_judge 28 = .ok (.getfield 41, 3) := by decide +kernel
theorem dX7_judge_31 : decode cX7_judge 31 = .ok (.aload_n 0, 1) := by decide +kernel
theorem dX7_judge_32 : decode cX7_judge 32 = .ok (.getfield 27, 3) := by decide +kernel
theorem dX7_judge_35 : decode cX7_judge 35 = .ok (.aload_n 0, 1) := by decide +kernel
theorem dX7_judge_36 : decode cX7_judge 36 = .ok (.getfield 10, 3) := by decide +kernel
theorem dX7_judge_39 : decode cX7_judge 39 = .ok (.invokevirtual 128, 3) := by decide +kernel
theorem dX7_judge_42 : decode cX7_judge 42 = .ok (.iload_n 1, 1) := by decide +kernel
theorem dX7_judge_43 : decode cX7_judge 43 = .ok (.ifCond .ne 13, 3) := by decide +kernel
theorem dX7_judge_46 : decode cX7_judge 46 = .ok (.aload_n 0, 1) := by decide +kernel
theorem dX7_judge_47 : decode cX7_judge 47 = .ok (.getfield 41, 3) := by decide +kernel
theorem dX7_judge_50 : decode cX7_judge 50 = .ok (.getfield 132, 3) := by decide +kernel
theorem dX7_judge_53 : decode cX7_judge 53 = .ok (.goto 10, 3) := by decide +kernel
theorem dX7_judge_56 : decode cX7_judge 56 = .ok (.aload_n 0, 1) := by decide +kernel
theorem dX7_judge_57 : decode cX7_judge 57 = .ok (.getfield 41, 3) := by decide +kernel
theorem dX7_judge_60 : decode cX7_judge 60 = .ok (.getfield 135, 3) := by decide +kernel
theorem dX7_judge_63 : decode cX7_judge 63 = .ok (.ireturn, 1) := by decide +kernel
set_option maxRecDepth 20000 in
theorem ggX7_done_X7_canBeDone : GoodIn wsX7_done wsX7_canBeDone := goodIn_r _ [11, 4, 2, 1, 12, 13, 14, 15, 16, 17, 18, 19, 20, 21, 22, 23, 24, 25, 26, 27, 28, 29, 30, 31, 32, 33, 34, 35, 36, 37, 38, 39, 40, 41, 42, 43, 44, 45, 46, 47, 48, 49, 50, 51, 52, 53, 54, 55, 56, 57, 58, 59, 60, 61, 62, 63, 64, 65, 66, 67, 68, 69, 70, 71, 72, 73, 74, 75, 76, 77, 78, 79, 80, 81, 82, 83, 84, 85, 86, 87, 88, 89, 90, 91, 92, 93, 94, 95, 96, 97, 98, 99, 100, 101, 102, 103, 104, 105, 106, 107, 108, 109, 110, 111, 112, 113, 114, 10, 115, 116, 117, 118, 119, 120, 121, 122, 123, 124, 125, 126, 127, 128, 129, 130, 131, 132, 133, 134, 135, 136, 137, 138, 139, 140, 141, 142, 143, 144, 145, 146, 147, 148, 149, 150, 151, 152, 153, 154, 155, 156, 157, 158, 159, 160, 161, 162, 163, 164, 165, 166, 167, 168, 169, 170, 171, 172, 173, 174, 175, 176, 177, 178, 179, 180, 181, 182, 183, 184, 185, 186, 188, 189, 190, 191, 192, 193, 194, 195, 196, 197, 198, 199, 200, 201, 202, 203, 204, 205, 206, 207, 208, 209, 210, 211, 212, 213, 214, 215, 216, 217, 218, 219, 220, 221, 222, 223, 224, 225, 226, 227, 228] (by decide +kernel) (by decide +kernel)
set_option maxRecDepth 20000 in
theorem gX7_done_X7_canBeDone : GoodIn wsX7_done (wsV RX7 138 RX7 yX7_canBeDone wsX7_canBeDone) := goodIn_app (goodIn_of _ (by decide +kernel)) ggX7_done_X7_canBeDone
set_option maxRecDepth 20000 in
theorem ggX7_done_X1_become : GoodIn wsX7_done wsX1_become := goodIn_r _ [65, 66, 67, 68, 69, 70, 71, 72, 73, 74, 75, 76, 77, 78, 79, 80, 81, 82, 83, 84, 85, 213, 214, 215, 216, 217, 218, 219, 220, 221, 222, 223, 224, 225, 226, 227, 228] (by decide +kernel) (by decide +kernel)
set_option maxRecDepth 20000 in
theorem gX7_done_X1_become : GoodIn wsX7_done (wsV RX7 145 RX1 yX1_become wsX1_become) := goodIn_app (goodIn_of _ (by decide +kernel)) ggX7_done_X1_become
theorem dX7_done_0 : decode cX7_done 0 = .ok (.aload_n 0, 1) := by decide +kernel
theorem dX7_done_1 : decode cX7_done 1 = .ok (.invokevirtual 138, 3) := by decide +kernel
theorem dX7_done_4 : decode cX7_done 4 = .ok (.ifCond .ne 6, 3) := by decide +kernel
theorem dX7_done_7 : decode cX7_done 7 = .ok (.bipush (-5), 2) := by decide +kernel
theorem dX7_done_9 : decode cX7_done 9 = .ok (.ireturn, 1) := by decide +kernel
theorem dX7_done_10 : decode cX7_done 10 = .ok (.aload_n 0, 1) := by decide +kernel
theorem dX7_done_11 : decode cX7_done 11 = .ok (.getfield 10, 3) := by decide +kernel
theorem dX7_done_14 : decode cX7_done 14 = .ok (.aload_n 0, 1) := by decide +kernel
theorem dX7_done_15 : decode cX7_done 15 = .ok (.getfield 41, 3) := by decide +kernel
theorem dX7_done_18 : decode cX7_done 18 = .ok (.getfield 142, 3) := by decide +kernel
theorem dX7_done_21 : decode cX7_done 21 = .ok (.invokevirtual 145, 3) := by decide +kernel
theorem dX7_done_24 : decode cX7_done 24 = .ok (.aload_n 0, 1) := by decide +kernel
theorem dX7_done_25 : decode cX7_done 25 = .ok (.getfield 27, 3) := by decide +kernel
theorem dX7_done_28 : decode cX7_done 28 = .ok (.iconst 0, 1) := by decide +kernel
theorem dX7_done_29 : decode cX7_done 29 = .ok (.putfield 119, 3) := by decide +kernel
theorem dX7_done_32 : decode cX7_done 32 = .ok (.aload_n 0, 1) := by decide +kernel
theorem dX7_done_33 : decode cX7_done 33 = .ok (.getfield 27, 3) := by decide +kernel
theorem dX7_done_36 : decode cX7_done 36 = .ok (.getfield 149, 3) := by decide +kernel
theorem dX7_done_39 : decode cX7_done 39 = .ok (.ireturn, 1) := by decide +kernel
set_option maxRecDepth 20000 in
theorem ggX7_behind_X1_isThere : GoodIn wsX7_behind wsX1_isThere := goodIn_r _ [10, 11, 12, 13, 14, 15, 16, 208, 209, 210, 211, 212, 213, 214, 215, 216, 217, 218, 219, 220, 221, 222, 223] (by decide +kernel) (by decide +kernel)
set_option maxRecDepth 20000 in
theorem gX7_behind_X1_isThere : GoodIn wsX7_behind (wsV RX7 116 RX1 yX1_isThere wsX1_isThere) := goodIn_app (goodIn_of _ (by decide +kernel)) ggX7_behind_X1_isThere
set_option maxRecDepth 20000 in
theorem ggX7_behind_X7_canBeDone : GoodIn wsX7_behind wsX7_canBeDone := goodIn_r _ [20, 21, 2, 1, 22, 23, 24, 25, 26, 27, 28, 29, 30, 31, 32, 33, 34, 35, 36, 37, 38, 39, 40, 41, 42, 43, 44, 45, 46, 47, 48, 49, 50, 51, 52, 53, 54, 55, 56, 57, 58, 59, 60, 61, 62, 63, 64, 65, 66, 67, 68, 69, 70, 71, 72, 73, 9, 74, 75, 76, 11, 77, 78, 79, 80, 81, 82, 83, 84, 85, 86, 87, 88, 89, 90, 91, 92, 93, 94, 95, 96, 97, 98, 99, 100, 101, 102, 103, 104, 105, 106, 107, 108, 109, 110, 111, 112, 113, 114, 115, 116, 117, 118, 119, 120, 121, 15, 13, 16, 122, 123, 124, 125, 126, 127, 128, 129, 130, 131, 132, 133, 134, 135, 136, 137, 138, 139, 140, 141, 142, 143, 144, 145, 146, 7, 8, 10, 12, 14, 147, 148, 149, 150, 151, 152, 153, 154, 155, 156, 157, 158, 159, 160, 161, 162, 163, 164, 165, 166, 167, 168, 169, 170, 171, 172, 173, 174, 175, 176, 177, 178, 179, 180, 181, 182, 183, 184, 185, 186, 187, 193, 194, 195, 196, 197, 198, 199, 200, 201, 202, 203, 204, 205, 206, 207, 224, 225, 226, 227, 228, 229, 230, 231, 232, 233, 208, 209, 210, 211, 212, 213, 214, 215, 216, 217, 218, 219, 220, 221, 222, 223] (by decide +kernel) (by decide +kernel)
set_option maxRecDepth 20000 in
theorem gX7_behind_X7_canBeDone : GoodIn wsX7_behind (wsV RX7 138 RX7 yX7_canBeDone wsX7_canBeDone) := goodIn_app (goodIn_of _ (by decide +kernel)) ggX7_behind_X7_canBeDone
set_option maxRecDepth 20000 in
theorem ggX7_behind_X1_noteOrNone : GoodIn wsX7_behind wsX1_noteOrNone := goodIn_r _ [191, 91, 192, 115, 116, 9, 117, 208, 209, 210, 211, 212, 213, 214, 215, 216, 217, 218, 219, 220, 221, 222, 223] (by decide +kernel) (by decide +kernel)
set_option maxRecDepth 20000 in
theorem gX7_behind_X1_noteOrNone : GoodIn wsX7_behind (wsV RX7 152 RX1 yX1_noteOrNone wsX1_noteOrNone) := goodIn_app (goodIn_of _ (by decide +kernel)) ggX7_behind_X1_noteOrNone
theorem dX7_behind_0 : decode cX7_behind 0 = .ok (.aload_n 0, 1) := by decide +kernel
theorem dX7_behind_1 : decode cX7_behind 1 = .ok (.getfield 10, 3) := by decide +kernel
theorem dX7_behind_4 : decode cX7_behind 4 = .ok (.iload_n 1, 1) := by decide +kernel
theorem dX7_behind_5 : decode cX7_behind 5 = .ok (.invokevirtual 116, 3) := by decide +kernel
theorem dX7_behind_8 : decode cX7_behind 8 = .ok (.ifCond .ne 5, 3) := by decide +kernel
theorem dX7_behind_11 : decode cX7_behind 11 = .ok (.iconst (-1), 1) := by decide +kernel
theorem dX7_behind_12 : decode cX7_behind 12 = .ok (.ireturn, 1) := by decide +kernel
theorem dX7_behind_13 : decode cX7_behind 13 = .ok (.iload_n 2, 1) := by decide +kernel
theorem dX7_behind_14 : decode cX7_behind 14 = .ok (.ifCond .lt 8, 3) := by decide +kernel
theorem dX7_behind_17 : decode cX7_behind 17 = .ok (.iload_n 2, 1) := by decide +kernel
theorem dX7_behind_18 : decode cX7_behind 18 = .ok (.iconst 2, 1) := by decide +kernel
theorem dX7_behind_19 : decode cX7_behind 19 = .ok (.if_icmp .le 6, 3) := by decide +kernel
theorem dX7_behind_22 : decode cX7_behind 22 = .ok (.bipush (-2), 2) := by decide +kernel
theorem dX7_behind_24 : decode cX7_behind 24 = .ok (.ireturn, 1) := by decide +kernel
theorem dX7_behind_25 : decode cX7_behind 25 = .ok (.aload_n 0, 1) := by decide +kernel
theorem dX7_behind_26 : decode cX7_behind 26 = .ok (.invokevirtual 138, 3) := by decide +kernel
theorem dX7_behind_29 : decode cX7_behind 29 = .ok (.ifCond .ne 6, 3) := by decide +kernel
theorem dX7_behind_32 : decode cX7_behind 32 = .ok (.bipush (-5), 2) := by decide +kernel
theorem dX7_behind_34 : decode cX7_behind 34 = .ok (.ireturn, 1) := by decide +kernel
theorem dX7_behind_35 : decode cX7_behind 35 = .ok (.aload_n 0, 1) := by decide +kernel
theorem dX7_behind_36 : decode cX7_behind 36 = .ok (.getfield 41, 3) := by decide +kernel
theorem dX7_behind_39 : decode cX7_behind 39 = .ok (.getfield 142, 3) := by decide +kernel
theorem dX7_behind_42 : decode cX7_behind 42 = .ok (.astore_n 3, 1) := by decide +kernel
theorem dX7_behind_43 : decode cX7_behind 43 = .ok (.iload_n 2, 1) := by decide +kernel
theorem dX7_behind_44 : decode cX7_behind 44 = .ok (.ifCond .ne 9, 3) := by decide +kernel
theorem dX7_behind_47 : decode cX7_behind 47 = .ok (.aload_n 3, 1) := by decide +kernel
theorem dX7_behind_48 : decode cX7_behind 48 = .ok (.iload_n 1, 1) := by decide +kernel
theorem dX7_behind_49 : decode cX7_behind 49 = .ok (.invokevirtual 152, 3) := by decide +kernel
theorem dX7_behind_52 : decode cX7_behind 52 = .ok (.ireturn, 1) := by decide +kernel
theorem dX7_behind_53 : decode cX7_behind 53 = .ok (.iload_n 2, 1) := by decide +kernel
theorem dX7_behind_54 : decode cX7_behind 54 = .ok (.iconst 1, 1) := by decide +kernel
theorem dX7_behind_55 : decode cX7_behind 55 = .ok (.if_icmp .ne 12, 3) := by decide +kernel
theorem dX7_behind_58 : decode cX7_behind 58 = .ok (.aload_n 3, 1) := by decide +kernel
theorem dX7_behind_59 : decode cX7_behind 59 = .ok (.getfield 101, 3) := by decide +kernel
theorem dX7_behind_62 : decode cX7_behind 62 = .ok (.iload_n 1, 1) := by decide +kernel
theorem dX7_behind_63 : decode cX7_behind 63 = .ok (.iaload, 1) := by decide +kernel
theorem dX7_behind_64 : decode cX7_behind 64 = .ok (.goto 9, 3) := by decide +kernel
theorem dX7_behind_67 : decode cX7_behind 67 = .ok (.aload_n 3, 1) := by decide +kernel
theorem dX7_behind_68 : decode cX7_behind 68 = .ok (.getfield 104, 3) := by decide +kernel
theorem dX7_behind_71 : decode cX7_behind 71 = .ok (.iload_n 1, 1) := by decide +kernel
theorem dX7_behind_72 : decode cX7_behind 72 = .ok (.iaload, 1) := by decide +kernel
theorem dX7_behind_73 : decode cX7_behind 73 = .ok (.ireturn, 1) := by decide +kernel
set_option maxRecDepth 20000 in
theorem ggX7_seam_X7_isGallery : GoodIn wsX7_seam wsX7_isGallery := goodIn_r _ [9] (by decide +kernel) (by decide +kernel)
set_option maxRecDepth 20000 in
theorem gX7_seam_X7_isGallery : GoodIn wsX7_seam (va_wsS RX7 66 yX7_isGallery wsX7_isGallery) := goodIn_app (goodIn_of _ (by decide +kernel)) ggX7_seam_X7_isGallery
set_option maxRecDepth 20000 in
theorem ggX7_seam_X7_canBeDone : GoodIn wsX7_seam wsX7_canBeDone := goodIn_r _ [13, 14, 1, 15, 16, 17, 18, 19, 20, 21, 22, 23, 24, 25, 26, 27, 28, 29, 30, 31, 32, 33, 34, 35, 36, 37, 38, 39, 40, 41, 42, 43, 44, 45, 46, 47, 48, 49, 50, 51, 52, 53, 54, 55, 56, 57, 58, 59, 60, 61, 62, 63, 64, 65, 66, 67, 68, 69, 70, 71, 72, 73, 74, 75, 76, 77, 78, 79, 80, 81, 82, 83, 84, 85, 86, 87, 88, 89, 90, 91, 92, 93, 94, 95, 96, 97, 98, 99, 100, 101, 102, 103, 104, 105, 106, 107, 108, 109, 110, 111, 112, 113, 114, 115, 116, 117, 118, 8, 119, 120, 121, 122, 123, 124, 125, 126, 127, 128, 129, 130, 131, 132, 133, 134, 135, 136, 137, 138, 139, 140, 141, 142, 143, 144, 145, 146, 147, 148, 149, 150, 151, 152, 153, 154, 155, 156, 157, 158, 159, 160, 161, 162, 163, 164, 165, 166, 167, 168, 169, 170, 171, 172, 173, 174, 175, 176, 177, 178, 179, 180, 181, 182, 183, 184, 185, 186, 187, 188, 189, 190, 192, 193, 194, 195, 196, 197, 198, 199, 200, 201, 202, 203, 204, 205, 206, 226, 227, 228, 229, 230, 231, 232, 223, 224, 225, 207, 208, 209, 210, 211, 212, 213, 214, 215, 216, 217, 218, 219, 220, 221, 222] (by decide +kernel) (by decide +kernel)
set_option maxRecDepth 20000 in
theorem gX7_seam_X7_canBeDone : GoodIn wsX7_seam (wsV RX7 138 RX7 yX7_canBeDone wsX7_canBeDone) := goodIn_app (goodIn_of _ (by decide +kernel)) ggX7_seam_X7_canBeDone
set_option maxRecDepth 20000 in
theorem ggX7_seam_X0_shineOn : GoodIn wsX7_seam wsX0_shineOn := goodIn_r _ [94, 95, 96, 97, 98, 99, 100, 101, 102, 103, 77, 78, 79, 104, 105, 106, 107, 108, 109, 110, 111, 112, 68, 113, 87, 114, 115, 116, 117, 70, 86, 118, 8, 119, 120, 121, 122, 123, 124, 125, 126, 127, 128, 129, 130, 223, 224, 225, 207, 208, 209, 210, 211, 212, 213, 214, 215, 216, 217, 218, 219, 220, 221, 222] (by decide +kernel) (by decide +kernel)
set_option maxRecDepth 20000 in
theorem gX7_seam_X0_shineOn : GoodIn wsX7_seam (wsV RX7 158 RX0 yX0_shineOn wsX0_shineOn) := goodIn_app (goodIn_of _ (by decide +kernel)) ggX7_seam_X0_shineOn
theorem dX7_seam_0 : decode cX7_seam 0 = .ok (.iload_n 1, 1) := by decide +kernel
theorem dX7_seam_1 : decode cX7_seam 1 = .ok (.invokestatic 66, 3) := by decide +kernel
theorem dX7_seam_4 : decode cX7_seam 4 = .ok (.ifCond .ne 5, 3) := by decide +kernel
theorem dX7_seam_7 : decode cX7_seam 7 = .ok (.iconst (-1), 1) := by decide +kernel
theorem dX7_seam_8 : decode cX7_seam 8 = .ok (.ireturn, 1) := by decide +kernel
theorem dX7_seam_9 : decode cX7_seam 9 = .ok (.iload_n 2, 1) := by decide +kernel
theorem dX7_seam_10 : decode cX7_seam 10 = .ok (.ifCond .lt 8, 3) := by decide +kernel
theorem dX7_seam_13 : decode cX7_seam 13 = .ok (.iload_n 2, 1) := by decide +kernel
theorem dX7_seam_14 : decode cX7_seam 14 = .ok (.iconst 1, 1) := by decide +kernel
theorem dX7_seam_15 : decode cX7_seam 15 = .ok (.if_icmp .le 6, 3) := by decide +kernel
theorem dX7_seam_18 : decode cX7_seam 18 = .ok (.bipush (-2), 2) := by decide +kernel
theorem dX7_seam_20 : decode cX7_seam 20 = .ok (.ireturn, 1) := by decide +kernel
theorem dX7_seam_21 : decode cX7_seam 21 = .ok (.aload_n 0, 1) := by decide +kernel
theorem dX7_seam_22 : decode cX7_seam 22 = .ok (.invokevirtual 138, 3) := by decide +kernel
theorem dX7_seam_25 : decode cX7_seam 25 = .ok (.ifCond .ne 6, 3) := by decide +kernel
theorem dX7_seam_28 : decode cX7_seam 28 = .ok (.bipush (-5), 2) := by decide +kernel
theorem dX7_seam_30 : decode cX7_seam 30 = .ok (.ireturn, 1) := by decide +kernel
theorem dX7_seam_31 : decode cX7_seam 31 = .ok (.iload_n 2, 1) := by decide +kernel
theorem dX7_seam_32 : decode cX7_seam 32 = .ok (.iconst 1, 1) := by decide +kernel
theorem dX7_seam_33 : decode cX7_seam 33 = .ok (.if_icmp .ne 16, 3) := by decide +kernel
theorem dX7_seam_36 : decode cX7_seam 36 = .ok (.aload_n 0, 1) := by decide +kernel
theorem dX7_seam_37 : decode cX7_seam 37 = .ok (.getfield 41, 3) := by decide +kernel
theorem dX7_seam_40 : decode cX7_seam 40 = .ok (.getfield 142, 3) := by decide +kernel
theorem dX7_seam_43 : decode cX7_seam 43 = .ok (.getfield 155, 3) := by decide +kernel
theorem dX7_seam_46 : decode cX7_seam 46 = .ok (.iload_n 1, 1) := by decide +kernel
theorem dX7_seam_47 : decode cX7_seam 47 = .ok (.iaload, 1) := by decide +kernel
theorem dX7_seam_48 : decode cX7_seam 48 = .ok (.ireturn, 1) := by decide +kernel
theorem dX7_seam_49 : decode cX7_seam 49 = .ok (.aload_n 0, 1) := by decide +kernel
theorem dX7_seam_50 : decode cX7_seam 50 = .ok (.getfield 34, 3) := by decide +kernel
theorem dX7_seam_53 : decode cX7_seam 53 = .ok (.aload_n 0, 1) := by decide +kernel
theorem dX7_seam_54 : decode cX7_seam 54 = .ok (.getfield 41, 3) := by decide +kernel
theorem dX7_seam_57 : decode cX7_seam 57 = .ok (.getfield 142, 3) := by decide +kernel
theorem dX7_seam_60 : decode cX7_seam 60 = .ok (.invokevirtual 158, 3) := by decide +kernel
theorem dX7_seam_63 : decode cX7_seam 63 = .ok (.aload_n 0, 1) := by decide +kernel
theorem dX7_seam_64 : decode cX7_seam 64 = .ok (.getfield 34, 3) := by decide +kernel
theorem dX7_seam_67 : decode cX7_seam 67 = .ok (.getfield 161, 3) := by decide +kernel
theorem dX7_seam_70 : decode cX7_seam 70 = .ok (.iload_n 1, 1) := by decide +kernel
theorem dX7_seam_71 : decode cX7_seam 71 = .ok (.iaload, 1) := by decide +kernel
theorem dX7_seam_72 : decode cX7_seam 72 = .ok (.ireturn, 1) := by decide +kernel
set_option maxRecDepth 20000 in
theorem ggX7_then_X7_canBeDone : GoodIn wsX7_then wsX7_canBeDone := goodIn_r _ [12, 13, 2, 14, 15, 16, 17, 18, 19, 20, 21, 22, 23, 24, 25, 26, 27, 28, 29, 30, 31, 32, 33, 34, 35, 36, 37, 38, 39, 40, 41, 42, 43, 44, 45, 46, 47, 48, 49, 50, 51, 52, 53, 54, 55, 56, 57, 58, 59, 60, 61, 62, 63, 64, 65, 66, 67, 68, 69, 70, 71, 72, 73, 74, 75, 76, 77, 78, 79, 80, 81, 82, 83, 84, 85, 86, 87, 88, 89, 90, 91, 92, 93, 94, 95, 96, 97, 98, 99, 100, 101, 102, 103, 104, 105, 106, 107, 108, 109, 110, 111, 112, 113, 114, 115, 116, 117, 11, 118, 119, 120, 121, 122, 123, 124, 125, 126, 127, 128, 129, 130, 131, 132, 133, 134, 135, 136, 137, 138, 139, 140, 141, 142, 143, 144, 145, 146, 147, 148, 149, 150, 151, 152, 153, 154, 155, 156, 157, 158, 159, 160, 161, 162, 163, 164, 165, 166, 167, 168, 169, 170, 171, 172, 173, 174, 175, 176, 177, 178, 179, 180, 181, 182, 183, 184, 185, 186, 187, 188, 189, 195, 196, 197, 198, 199, 200, 201, 202, 203, 204, 205, 206, 207, 208, 209, 229, 230, 231, 232, 233, 234, 235, 210, 211, 212, 213, 214, 215, 216, 217, 218, 219, 220, 221, 222, 223, 224, 225, 226, 227, 228] (by decide +kernel) (by decide +kernel)
set_option maxRecDepth 20000 in
theorem gX7_then_X7_canBeDone : GoodIn wsX7_then (wsV RX7 138 RX7 yX7_canBeDone wsX7_canBeDone) := goodIn_app (goodIn_of _ (by decide +kernel)) ggX7_then_X7_canBeDone
set_option maxRecDepth 20000 in
theorem ggX7_then_X0_shineOn : GoodIn wsX7_then wsX0_shineOn := goodIn_r _ [93, 94, 95, 96, 97, 98, 99, 100, 101, 102, 76, 77, 78, 103, 104, 105, 106, 107, 108, 109, 110, 111, 67, 112, 86, 113, 114, 115, 116, 69, 85, 117, 11, 118, 119, 120, 121, 122, 123, 124, 125, 126, 127, 128, 129, 210, 211, 212, 213, 214, 215, 216, 217, 218, 219, 220, 221, 222, 223, 224, 225, 226, 227, 228] (by decide +kernel) (by decide +kernel)
set_option maxRecDepth 20000 in
theorem gX7_then_X0_shineOn : GoodIn wsX7_then (wsV RX7 158 RX0 yX0_shineOn wsX0_shineOn) := goodIn_app (goodIn_of _ (by decide +kernel)) ggX7_then_X0_shineOn
set_option maxRecDepth 20000 in
theorem ggX7_then_X1_coalInAll : GoodIn wsX7_then wsX1_coalInAll := goodIn_r _ [194, 80, 213, 214, 215, 216, 217, 218, 219, 220, 221, 222, 223, 224, 225, 226, 227, 228] (by decide +kernel) (by decide +kernel)
set_option maxRecDepth 20000 in
theorem gX7_then_X1_coalInAll : GoodIn wsX7_then (wsV RX7 170 RX1 yX1_coalInAll wsX1_coalInAll) := goodIn_app (goodIn_of _ (by decide +kernel)) ggX7_then_X1_coalInAll
theorem dX7_then_0 : decode cX7_then 0 = .ok (.iload_n 1, 1) := by decide +kernel
theorem dX7_then_1 : decode cX7_then 1 = .ok (.ifCond .lt 8, 3) := by decide +kernel
theorem dX7_then_4 : decode cX7_then 4 = .ok (.iload_n 1, 1) := by decide +kernel
theorem dX7_then_5 : decode cX7_then 5 = .ok (.iconst 4, 1) := by decide +kernel
theorem dX7_then_6 : decode cX7_then 6 = .ok (.if_icmp .le 6, 3) := by decide +kernel
theorem dX7_then_9 : decode cX7_then 9 = .ok (.bipush (-2), 2) := by decide +kernel
theorem dX7_then_11 : decode cX7_then 11 = .ok (.ireturn, 1) := by decide +kernel
theorem dX7_then_12 : decode cX7_then 12 = .ok (.aload_n 0, 1) := by decide +kernel
theorem dX7_then_13 : decode cX7_then 13 = .ok (.invokevirtual 138, 3) := by decide +kernel
theorem dX7_then_16 : decode cX7_then 16 = .ok (.ifCond .ne 6, 3) := by decide +kernel
theorem dX7_then_19 : decode cX7_then 19 = .ok (.bipush (-5), 2) := by decide +kernel
theorem dX7_then_21 : decode cX7_then 21 = .ok (.ireturn, 1) := by decide +kernel
theorem dX7_then_22 : decode cX7_then 22 = .ok (.iload_n 1, 1) := by decide +kernel
theorem dX7_then_23 : decode cX7_then 23 = .ok (.tableswitch 81 0 3 #[29, 51, 62, 73], 29) := by decide +kernel
theorem dX7_then_52 : decode cX7_then 52 = .ok (.aload_n 0, 1) := by decide +kernel
theorem dX7_then_53 : decode cX7_then 53 = .ok (.getfield 34, 3) := by decide +kernel
theorem dX7_then_56 : decode cX7_then 56 = .ok (.aload_n 0, 1) := by decide +kernel
theorem dX7_then_57 : decode cX7_then 57 = .ok (.getfield 41, 3) := by decide +kernel
theorem dX7_then_60 : decode cX7_then 60 = .ok (.getfield 142, 3) := by decide +kernel
theorem dX7_then_63 : decode cX7_then 63 = .ok (.invokevirtual 158, 3) := by decide +kernel
theorem dX7_then_66 : decode cX7_then 66 = .ok (.aload_n 0, 1) := by decide +kernel
theorem dX7_then_67 : decode cX7_then 67 = .ok (.getfield 34, 3) := by decide +kernel
theorem dX7_then_70 : decode cX7_then 70 = .ok (.getfield 164, 3) := by decide +kernel
theorem dX7_then_73 : decode cX7_then 73 = .ok (.ireturn, 1) := by decide +kernel
theorem dX7_then_74 : decode cX7_then 74 = .ok (.aload_n 0, 1) := by decide +kernel
theorem dX7_then_75 : decode cX7_then 75 = .ok (.getfield 41, 3) := by decide +kernel
theorem dX7_then_78 : decode cX7_then 78 = .ok (.getfield 142, 3) := by decide +kernel
theorem dX7_then_81 : decode cX7_then 81 = .ok (.getfield 167, 3) := by decide +kernel
theorem dX7_then_84 : decode cX7_then 84 = .ok (.ireturn, 1) := by decide +kernel
theorem dX7_then_85 : decode cX7_then 85 = .ok (.aload_n 0, 1) := by decide +kernel
theorem dX7_then_86 : decode cX7_then 86 = .ok (.getfield 41, 3) := by decide +kernel
theorem dX7_then_89 : decode cX7_then 89 = .ok (.getfield 142, 3) := by decide +kernel
theorem dX7_then_92 : decode cX7_then 92 = .ok (.invokevirtual 170, 3) := by decide +kernel
theorem dX7_then_95 : decode cX7_then 95 = .ok (.ireturn, 1) := by decide +kernel
theorem dX7_then_96 : decode cX7_then 96 = .ok (.aload_n 0, 1) := by decide +kernel
theorem dX7_then_97 : decode cX7_then 97 = .ok (.getfield 41, 3) := by decide +kernel
theorem dX7_then_100 : decode cX7_then 100 = .ok (.getfield 173, 3) := by decide +kernel
theorem dX7_then_103 : decode cX7_then 103 = .ok (.ireturn, 1) := by decide +kernel
theorem dX7_then_104 : decode cX7_then 104 = .ok (.aload_n 0, 1) := by decide +kernel
theorem dX7_then_105 : decode cX7_then 105 = .ok (.getfield 41, 3) := by decide +kernel
theorem dX7_then_108 : decode cX7_then 108 = .ok (.getfield 176, 3) := by decide +kernel
theorem dX7_then_111 : decode cX7_then 111 = .ok (.ireturn, 1) := by decide +kernel
set_option maxRecDepth 20000 in
theorem ggX7_light_X7_isGallery : GoodIn wsX7_light wsX7_isGallery := goodIn_r _ [7] (by decide +kernel) (by decide +kernel)
set_option maxRecDepth 20000 in
theorem gX7_light_X7_isGallery : GoodIn wsX7_light (va_wsS RX7 66 yX7_isGallery wsX7_isGallery) := goodIn_app (goodIn_of _ (by decide +kernel)) ggX7_light_X7_isGallery
set_option maxRecDepth 20000 in
theorem ggX7_light_X0_shineOn : GoodIn wsX7_light wsX0_shineOn := goodIn_r _ [12, 13, 14, 15, 16, 17, 18, 19, 20, 21, 22, 23, 24, 25, 26, 27, 28, 29, 30, 31, 32, 33, 34, 35, 36, 37, 38, 39, 40, 41, 42, 43, 6, 44, 45, 46, 47, 48, 49, 50, 51, 52, 53, 54, 55, 65, 66, 67, 68, 69, 70, 71, 72, 73, 74, 75, 76, 77, 78, 79, 80, 81, 82, 83] (by decide +kernel) (by decide +kernel)
set_option maxRecDepth 20000 in
theorem gX7_light_X0_shineOn : GoodIn wsX7_light (wsV RX7 158 RX0 yX0_shineOn wsX0_shineOn) := goodIn_app (goodIn_of _ (by decide +kernel)) ggX7_light_X0_shineOn
theorem dX7_light_0 : decode cX7_light 0 = .ok (.iload_n 1, 1) := by decide +kernel
theorem dX7_light_1 : decode cX7_light 1 = .ok (.invokestatic 66, 3) := by decide +kernel
theorem dX7_light_4 : decode cX7_light 4 = .ok (.ifCond .ne 5, 3) := by decide +kernel
theorem dX7_light_7 : decode cX7_light 7 = .ok (.iconst (-1), 1) := by decide +kernel
theorem dX7_light_8 : decode cX7_light 8 = .ok (.ireturn, 1) := by decide +kernel
theorem dX7_light_9 : decode cX7_light 9 = .ok (.aload_n 0, 1) := by decide +kernel
theorem dX7_light_10 : decode cX7_light 10 = .ok (.getfield 34, 3) := by decide +kernel
theorem dX7_light_13 : decode cX7_light 13 = .ok (.aload_n 0, 1) := by decide +kernel
theorem dX7_light_14 : decode cX7_light 14 = .ok (.getfield 10, 3) := by decide +kernel
theorem dX7_light_17 : decode cX7_light 17 = .ok (.invokevirtual 158, 3) := by decide +kernel
theorem dX7_light_20 : decode cX7_light 20 = .ok (.aload_n 0, 1) := by decide +kernel
theorem dX7_light_21 : decode cX7_light 21 = .ok (.getfield 34, 3) := by decide +kernel
theorem dX7_light_24 : decode cX7_light 24 = .ok (.getfield 161, 3) := by decide +kernel
theorem dX7_light_27 : decode cX7_light 27 = .ok (.iload_n 1, 1) := by decide +kernel
theorem dX7_light_28 : decode cX7_light 28 = .ok (.iaload, 1) := by decide +kernel
theorem dX7_light_29 : decode cX7_light 29 = .ok (.ireturn, 1) := by decide +kernel
set_option maxRecDepth 20000 in
theorem ggX7_shakes_X1_singTogether : GoodIn wsX7_shakes wsX1_singTogether := goodIn_r _ [8, 9, 10, 20, 21, 22, 23, 24, 25, 26, 27, 28, 29, 30, 31, 32, 33, 34, 35] (by decide +kernel) (by decide +kernel)
set_option maxRecDepth 20000 in
theorem gX7_shakes_X1_singTogether : GoodIn wsX7_shakes (wsV RX7 179 RX1 yX1_singTogether wsX1_singTogether) := goodIn_app (goodIn_of _ (by decide +kernel)) ggX7_shakes_X1_singTogether
theorem dX7_shakes_0 : decode cX7_shakes 0 = .ok (.iconst 0, 1) := by decide +kernel
theorem dX7_shakes_1 : decode cX7_shakes 1 = .ok (.istore_n 1, 1) := by decide +kernel
theorem dX7_shakes_2 : decode cX7_shakes 2 = .ok (.iconst 0, 1) := by decide +kernel
theorem dX7_shakes_3 : decode cX7_shakes 3 = .ok (.istore_n 2, 1) := by decide +kernel
theorem dX7_shakes_4 : decode cX7_shakes 4 = .ok (.iload_n 2, 1) := by decide +kernel
theorem dX7_shakes_5 : decode cX7_shakes 5 = .ok (.bipush 8, 2) := by decide +kernel
theorem dX7_shakes_7 : decode cX7_shakes 7 = .ok (.if_icmp .ge 72, 3) := by decide +kernel
theorem dX7_shakes_10 : decode cX7_shakes 10 = .ok (.iconst 0, 1) := by decide +kernel
theorem dX7_shakes_11 : decode cX7_shakes 11 = .ok (.istore_n 3, 1) := by decide +kernel
theorem dX7_shakes_12 : decode cX7_shakes 12 = .ok (.iload_n 3, 1) := by decide +kernel
theorem dX7_shakes_13 : decode cX7_shakes 13 = .ok (.bipush 8, 2) := by decide +kernel
theorem dX7_shakes_15 : decode cX7_shakes 15 = .ok (.if_icmp .ge 58, 3) := by decide +kernel
theorem dX7_shakes_18 : decode cX7_shakes 18 = .ok (.aload_n 0, 1) := by decide +kernel
theorem dX7_shakes_19 : decode cX7_shakes 19 = .ok (.getfield 10, 3) := by decide +kernel
theorem dX7_shakes_22 : decode cX7_shakes 22 = .ok (.iload_n 2, 1) := by decide +kernel
theorem dX7_shakes_23 : decode cX7_shakes 23 = .ok (.iload_n 3, 1) := by decide +kernel
theorem dX7_shakes_24 : decode cX7_shakes 24 = .ok (.invokevirtual 179, 3) := by decide +kernel
theorem dX7_shakes_27 : decode cX7_shakes 27 = .ok (.ifCond .eq 40, 3) := by decide +kernel
theorem dX7_shakes_30 : decode cX7_shakes 30 = .ok (.aload_n 0, 1) := by decide +kernel
theorem dX7_shakes_31 : decode cX7_shakes 31 = .ok (.getfield 10, 3) := by decide +kernel
theorem dX7_shakes_34 : decode cX7_shakes 34 = .ok (.getfield 107, 3) := by decide +kernel
theorem dX7_shakes_37 : decode cX7_shakes 37 = .ok (.iload_n 3, 1) := by decide +kernel
theorem dX7_shakes_38 : decode cX7_shakes 38 = .ok (.iaload, 1) := by decide +kernel
theorem dX7_shakes_39 : decode cX7_shakes 39 = .ok (.aload_n 0, 1) := by decide +kernel
theorem dX7_shakes_40 : decode cX7_shakes 40 = .ok (.getfield 10, 3) := by decide +kernel
theorem dX7_shakes_43 : decode cX7_shakes 43 = .ok (.getfield 107, 3) := by decide +kernel
theorem dX7_shakes_46 : decode cX7_shakes 46 = .ok (.iload_n 2, 1) := by decide +kernel
theorem dX7_shakes_47 : decode cX7_shakes 47 = .ok (.iaload, 1) := by decide +kernel
theorem dX7_shakes_48 : decode cX7_shakes 48 = .ok (.isub, 1) := by decide +kernel
theorem dX7_shakes_49 : decode cX7_shakes 49 = .ok (.iconst 1, 1) := by decide +kernel
theorem dX7_shakes_50 : decode cX7_shakes 50 = .ok (.if_icmp .ne 17, 3) := by decide +kernel
theorem dX7_shakes_53 : decode cX7_shakes 53 = .ok (.iload_n 1, 1) := by decide +kernel
theorem dX7_shakes_54 : decode cX7_shakes 54 = .ok (.iconst 1, 1) := by decide +kernel
theorem dX7_shakes_55 : decode cX7_shakes 55 = .ok (.aload_n 0, 1) := by decide +kernel
theorem dX7_shakes_56 : decode cX7_shakes 56 = .ok (.getfield 10, 3) := by decide +kernel
theorem dX7_shakes_59 : decode cX7_shakes 59 = .ok (.getfield 104, 3) := by decide +kernel
theorem dX7_shakes_62 : decode cX7_shakes 62 = .ok (.iload_n 2, 1) := by decide +kernel
theorem dX7_shakes_63 : decode cX7_shakes 63 = .ok (.iaload, 1) := by decide +kernel
theorem dX7_shakes_64 : decode cX7_shakes 64 = .ok (.ishl, 1) := by decide +kernel
theorem dX7_shakes_65 : decode cX7_shakes 65 = .ok (.ior, 1) := by decide +kernel
theorem dX7_shakes_66 : decode cX7_shakes 66 = .ok (.istore_n 1, 1) := by decide +kernel
theorem dX7_shakes_67 : decode cX7_shakes 67 = .ok (.iinc 3 1, 3) := by decide +kernel
theorem dX7_shakes_70 : decode cX7_shakes 70 = .ok (.goto (-58), 3) := by decide +kernel
theorem dX7_shakes_73 : decode cX7_shakes 73 = .ok (.iinc 2 1, 3) := by decide +kernel
theorem dX7_shakes_76 : decode cX7_shakes 76 = .ok (.goto (-72), 3) := by decide +kernel
theorem dX7_shakes_79 : decode cX7_shakes 79 = .ok (.iload_n 1, 1) := by decide +kernel
theorem dX7_shakes_80 : decode cX7_shakes 80 = .ok (.ireturn, 1) := by decide +kernel
set_option maxRecDepth 20000 in
theorem ggX7_way_X7_isGallery : GoodIn wsX7_way wsX7_isGallery := goodIn_r _ [11] (by decide +kernel) (by decide +kernel)
set_option maxRecDepth 20000 in
theorem gX7_way_X7_isGallery : GoodIn wsX7_way (va_wsS RX7 66 yX7_isGallery wsX7_isGallery) := goodIn_app (goodIn_of _ (by decide +kernel)) ggX7_way_X7_isGallery
set_option maxRecDepth 20000 in
theorem ggX7_way_X0_shineOn : GoodIn wsX7_way wsX0_shineOn := goodIn_r _ [16, 17, 18, 19, 20, 21, 22, 23, 24, 25, 26, 27, 28, 29, 30, 31, 32, 33, 34, 35, 36, 37, 38, 39, 40, 41, 42, 43, 44, 45, 46, 47, 10, 48, 49, 50, 51, 52, 53, 54, 55, 56, 57, 58, 59, 96, 97, 98, 80, 81, 82, 83, 84, 85, 86, 87, 88, 89, 90, 91, 92, 93, 94, 95] (by decide +kernel) (by decide +kernel)
set_option maxRecDepth 20000 in
theorem gX7_way_X0_shineOn : GoodIn wsX7_way (wsV RX7 158 RX0 yX0_shineOn wsX0_shineOn) := goodIn_app (goodIn_of _ (by decide +kernel)) ggX7_way_X0_shineOn
set_option maxRecDepth 20000 in
theorem ggX7_way_X6_measure : GoodIn wsX7_way wsX6_measure := goodIn_r _ [64, 65, 66, 32, 33, 34, 47, 10, 48, 99] (by decide +kernel) (by decide +kernel)
set_option maxRecDepth 20000 in
theorem gX7_way_X6_measure : GoodIn wsX7_way (wsV RX7 189 RX6 yX6_measure wsX6_measure) := goodIn_app (goodIn_of _ (by decide +kernel)) ggX7_way_X6_measure
set_option maxRecDepth 20000 in
theorem ggX7_way_X6_nextFrom : GoodIn wsX7_way wsX6_nextFrom := goodIn_r _ [70, 65, 47, 10, 48, 99] (by decide +kernel) (by decide +kernel)
set_option maxRecDepth 20000 in
theorem gX7_way_X6_nextFrom : GoodIn wsX7_way (wsV RX7 196 RX6 yX6_nextFrom wsX6_nextFrom) := goodIn_app (goodIn_of _ (by decide +kernel)) ggX7_way_X6_nextFrom
theorem dX7_way_0 : decode cX7_way 0 = .ok (.iload_n 1, 1) := by decide +kernel
theorem dX7_way_1 : decode cX7_way 1 = .ok (.invokestatic 66, 3) := by decide +kernel
theorem dX7_way_4 : decode cX7_way 4 = .ok (.ifCond .eq 10, 3) := by decide +kernel
theorem dX7_way_7 : decode cX7_way 7 = .ok (.iload_n 2, 1) := by decide +kernel
theorem dX7_way_8 : decode cX7_way 8 = .ok (.invokestatic 66, 3) := by decide +kernel
theorem dX7_way_11 : decode cX7_way 11 = .ok (.ifCond .ne 5, 3) := by decide +kernel
theorem dX7_way_14 : decode cX7_way 14 = .ok (.iconst (-1), 1) := by decide +kernel
theorem dX7_way_15 : decode cX7_way 15 = .ok (.ireturn, 1) := by decide +kernel
theorem dX7_way_16 : decode cX7_way 16 = .ok (.iload_n 3, 1) := by decide +kernel
theorem dX7_way_17 : decode cX7_way 17 = .ok (.ifCond .lt 8, 3) := by decide +kernel
theorem dX7_way_20 : decode cX7_way 20 = .ok (.iload_n 3, 1) := by decide +kernel
theorem dX7_way_21 : decode cX7_way 21 = .ok (.iconst 1, 1) := by decide +kernel
theorem dX7_way_22 : decode cX7_way 22 = .ok (.if_icmp .le 6, 3) := by decide +kernel
theorem dX7_way_25 : decode cX7_way 25 = .ok (.bipush (-2), 2) := by decide +kernel
theorem dX7_way_27 : decode cX7_way 27 = .ok (.ireturn, 1) := by decide +kernel
theorem dX7_way_28 : decode cX7_way 28 = .ok (.aload_n 0, 1) := by decide +kernel
theorem dX7_way_29 : decode cX7_way 29 = .ok (.getfield 34, 3) := by decide +kernel
theorem dX7_way_32 : decode cX7_way 32 = .ok (.aload_n 0, 1) := by decide +kernel
theorem dX7_way_33 : decode cX7_way 33 = .ok (.getfield 10, 3) := by decide +kernel
theorem dX7_way_36 : decode cX7_way 36 = .ok (.invokevirtual 158, 3) := by decide +kernel
theorem dX7_way_39 : decode cX7_way 39 = .ok (.aload_n 0, 1) := by decide +kernel
theorem dX7_way_40 : decode cX7_way 40 = .ok (.getfield 48, 3) := by decide +kernel
theorem dX7_way_43 : decode cX7_way 43 = .ok (.iload_n 2, 1) := by decide +kernel
theorem dX7_way_44 : decode cX7_way 44 = .ok (.aload_n 0, 1) := by decide +kernel
theorem dX7_way_45 : decode cX7_way 45 = .ok (.getfield 10, 3) := by decide +kernel
theorem dX7_way_48 : decode cX7_way 48 = .ok (.getfield 183, 3) := by decide +kernel
theorem dX7_way_51 : decode cX7_way 51 = .ok (.aload_n 0, 1) := by decide +kernel
theorem dX7_way_52 : decode cX7_way 52 = .ok (.getfield 34, 3) := by decide +kernel
theorem dX7_way_55 : decode cX7_way 55 = .ok (.getfield 164, 3) := by decide +kernel
theorem dX7_way_58 : decode cX7_way 58 = .ok (.aload_n 0, 1) := by decide +kernel
theorem dX7_way_59 : decode cX7_way 59 = .ok (.getfield 10, 3) := by decide +kernel
theorem dX7_way_62 : decode cX7_way 62 = .ok (.getfield 186, 3) := by decide +kernel
theorem dX7_way_65 : decode cX7_way 65 = .ok (.iconst (-1), 1) := by decide +kernel
theorem dX7_way_66 : decode cX7_way 66 = .ok (.ixor, 1) := by decide +kernel
theorem dX7_way_67 : decode cX7_way 67 = .ok (.iand, 1) := by decide +kernel
theorem dX7_way_68 : decode cX7_way 68 = .ok (.invokevirtual 189, 3) := by decide +kernel
theorem dX7_way_71 : decode cX7_way 71 = .ok (.iload_n 3, 1) := by decide +kernel
theorem dX7_way_72 : decode cX7_way 72 = .ok (.ifCond .ne 15, 3) := by decide +kernel
theorem dX7_way_75 : decode cX7_way 75 = .ok (.aload_n 0, 1) := by decide +kernel
theorem dX7_way_76 : decode cX7_way 76 = .ok (.getfield 48, 3) := by decide +kernel
theorem dX7_way_79 : decode cX7_way 79 = .ok (.getfield 193, 3) := by decide +kernel
theorem dX7_way_82 : decode cX7_way 82 = .ok (.iload_n 1, 1) := by decide +kernel
theorem dX7_way_83 : decode cX7_way 83 = .ok (.iaload, 1) := by decide +kernel
theorem dX7_way_84 : decode cX7_way 84 = .ok (.goto 18, 3) := by decide +kernel
theorem dX7_way_87 : decode cX7_way 87 = .ok (.aload_n 0, 1) := by decide +kernel
theorem dX7_way_88 : decode cX7_way 88 = .ok (.getfield 48, 3) := by decide +kernel
theorem dX7_way_91 : decode cX7_way 91 = .ok (.iload_n 1, 1) := by decide +kernel
theorem dX7_way_92 : decode cX7_way 92 = .ok (.aload_n 0, 1) := by decide +kernel
theorem dX7_way_93 : decode cX7_way 93 = .ok (.getfield 10, 3) := by decide +kernel
theorem dX7_way_96 : decode cX7_way 96 = .ok (.getfield 183, 3) := by decide +kernel
theorem dX7_way_99 : decode cX7_way 99 = .ok (.invokevirtual 196, 3) := by decide +kernel
theorem dX7_way_102 : decode cX7_way 102 = .ok (.ireturn, 1) := by decide +kernel
set_option maxRecDepth 20000 in
theorem ggX7_fewest_X7_isBetter : GoodIn wsX7_fewest wsX7_isBetter := goodIn_r _ [5, 6, 7, 8, 9, 10, 11, 12, 13, 14, 15, 16, 4, 17, 18, 19, 20, 21, 22, 23, 24, 25, 26, 27, 28, 29, 30, 31, 32, 33, 34, 35, 36, 37, 38, 39, 40, 41, 42] (by decide +kernel) (by decide +kernel)
set_option maxRecDepth 20000 in
theorem gX7_fewest_X7_isBetter : GoodIn wsX7_fewest (wsV RX7 200 RX7 yX7_isBetter wsX7_isBetter) := goodIn_app (goodIn_of _ (by decide +kernel)) ggX7_fewest_X7_isBetter
set_option maxRecDepth 20000 in
theorem ggX7_fewest_J6_bitCount_0f7a4 : GoodIn wsX7_fewest wsJ6_bitCount_0f7a4 := goodIn_r _ [11, 12, 13, 14] (by decide +kernel) (by decide +kernel)
set_option maxRecDepth 20000 in
theorem gX7_fewest_J6_bitCount_0f7a4 : GoodIn wsX7_fewest (va_wsS RX7 110 yJ6_bitCount_0f7a4 wsJ6_bitCount_0f7a4) := goodIn_app (goodIn_of _ (by decide +kernel)) ggX7_fewest_J6_bitCount_0f7a4
theorem dX7_fewest_0 : decode cX7_fewest 0 = .ok (.iload_n 1, 1) := by decide +kernel
theorem dX7_fewest_1 : decode cX7_fewest 1 = .ok (.ifCond .lt 19, 3) := by decide +kernel
theorem dX7_fewest_4 : decode cX7_fewest 4 = .ok (.iload_n 1, 1) := by decide +kernel
theorem dX7_fewest_5 : decode cX7_fewest 5 = .ok (.sipush 1023, 3) := by decide +kernel
theorem dX7_fewest_8 : decode cX7_fewest 8 = .ok (.if_icmp .gt 12, 3) := by decide +kernel
theorem dX7_fewest_11 : decode cX7_fewest 11 = .ok (.iload_n 2, 1) := by decide +kernel
theorem dX7_fewest_12 : decode cX7_fewest 12 = .ok (.ifCond .lt 8, 3) := by decide +kernel
theorem dX7_fewest_15 : decode cX7_fewest 15 = .ok (.iload_n 2, 1) := by decide +kernel
theorem dX7_fewest_16 : decode cX7_fewest 16 = .ok (.iconst 1, 1) := by decide +kernel
theorem dX7_fewest_17 : decode cX7_fewest 17 = .ok (.if_icmp .le 6, 3) := by decide +kernel
theorem dX7_fewest_20 : decode cX7_fewest 20 = .ok (.bipush (-2), 2) := by decide +kernel
theorem dX7_fewest_22 : decode cX7_fewest 22 = .ok (.ireturn, 1) := by decide +kernel
theorem dX7_fewest_23 : decode cX7_fewest 23 = .ok (.iload_n 1, 1) := by decide +kernel
theorem dX7_fewest_24 : decode cX7_fewest 24 = .ok (.istore_n 3, 1) := by decide +kernel
theorem dX7_fewest_25 : decode cX7_fewest 25 = .ok (.iconst 0, 1) := by decide +kernel
theorem dX7_fewest_26 : decode cX7_fewest 26 = .ok (.istore 4, 2) := by decide +kernel
theorem dX7_fewest_28 : decode cX7_fewest 28 = .ok (.iload 4, 2) := by decide +kernel
theorem dX7_fewest_30 : decode cX7_fewest 30 = .ok (.sipush 1023, 3) := by decide +kernel
theorem dX7_fewest_33 : decode cX7_fewest 33 = .ok (.if_icmp .gt 23, 3) := by decide +kernel
theorem dX7_fewest_36 : decode cX7_fewest 36 = .ok (.aload_n 0, 1) := by decide +kernel
theorem dX7_fewest_37 : decode cX7_fewest 37 = .ok (.iload 4, 2) := by decide +kernel
theorem dX7_fewest_39 : decode cX7_fewest 39 = .ok (.iload_n 3, 1) := by decide +kernel
theorem dX7_fewest_40 : decode cX7_fewest 40 = .ok (.iload_n 1, 1) := by decide +kernel
theorem dX7_fewest_41 : decode cX7_fewest 41 = .ok (.invokevirtual 200, 3) := by decide +kernel
theorem dX7_fewest_44 : decode cX7_fewest 44 = .ok (.ifCond .eq 6, 3) := by decide +kernel
theorem dX7_fewest_47 : decode cX7_fewest 47 = .ok (.iload 4, 2) := by decide +kernel
theorem dX7_fewest_49 : decode cX7_fewest 49 = .ok (.istore_n 3, 1) := by decide +kernel
theorem dX7_fewest_50 : decode cX7_fewest 50 = .ok (.iinc 4 1, 3) := by decide +kernel
theorem dX7_fewest_53 : decode cX7_fewest 53 = .ok (.goto (-25), 3) := by decide +kernel
theorem dX7_fewest_56 : decode cX7_fewest 56 = .ok (.iload_n 2, 1) := by decide +kernel
theorem dX7_fewest_57 : decode cX7_fewest 57 = .ok (.ifCond .ne 10, 3) := by decide +kernel
theorem dX7_fewest_60 : decode cX7_fewest 60 = .ok (.iload_n 3, 1) := by decide +kernel
theorem dX7_fewest_61 : decode cX7_fewest 61 = .ok (.invokestatic 110, 3) := by decide +kernel
theorem dX7_fewest_64 : decode cX7_fewest 64 = .ok (.goto 4, 3) := by decide +kernel
theorem dX7_fewest_67 : decode cX7_fewest 67 = .ok (.iload_n 3, 1) := by decide +kernel
theorem dX7_fewest_68 : decode cX7_fewest 68 = .ok (.ireturn, 1) := by decide +kernel
set_option maxRecDepth 20000 in
theorem ggX7_keep_X1_singing : GoodIn wsX7_keep wsX1_singing := goodIn_r _ [6, 7, 8, 9, 5, 10, 11, 50, 51, 52, 53, 54, 55, 56, 57, 58, 59, 60, 61, 62, 63, 64, 65] (by decide +kernel) (by decide +kernel)
set_option maxRecDepth 20000 in
theorem gX7_keep_X1_singing : GoodIn wsX7_keep (wsV RX7 204 RX1 yX1_singing wsX1_singing) := goodIn_app (goodIn_of _ (by decide +kernel)) ggX7_keep_X1_singing
set_option maxRecDepth 20000 in
theorem ggX7_keep_J6_bitCount_0f7a4 : GoodIn wsX7_keep wsJ6_bitCount_0f7a4 := goodIn_r _ [15, 16, 17, 18] (by decide +kernel) (by decide +kernel)
set_option maxRecDepth 20000 in
theorem gX7_keep_J6_bitCount_0f7a4 : GoodIn wsX7_keep (va_wsS RX7 110 yJ6_bitCount_0f7a4 wsJ6_bitCount_0f7a4) := goodIn_app (goodIn_of _ (by decide +kernel)) ggX7_keep_J6_bitCount_0f7a4
set_option maxRecDepth 20000 in
theorem ggX7_keep_X7_canSingOn : GoodIn wsX7_keep wsX7_canSingOn := goodIn_r _ [23, 1, 24, 25, 22, 26, 27, 28, 29, 5, 30, 31, 32, 11, 33, 34, 35, 36, 37, 38, 39, 40, 41, 42, 43, 44, 45, 46, 47, 48, 49, 50, 51, 52, 53, 54, 55, 56, 57, 58, 59, 60, 61, 62, 63, 64, 65] (by decide +kernel) (by decide +kernel)
set_option maxRecDepth 20000 in
theorem gX7_keep_X7_canSingOn : GoodIn wsX7_keep (wsV RX7 207 RX7 yX7_canSingOn wsX7_canSingOn) := goodIn_app (goodIn_of _ (by decide +kernel)) ggX7_keep_X7_canSingOn
theorem dX7_keep_0 : decode cX7_keep 0 = .ok (.iload_n 1, 1) := by decide +kernel
theorem dX7_keep_1 : decode cX7_keep 1 = .ok (.ifCond .lt 8, 3) := by decide +kernel
theorem dX7_keep_4 : decode cX7_keep 4 = .ok (.iload_n 1, 1) := by decide +kernel
theorem dX7_keep_5 : decode cX7_keep 5 = .ok (.iconst 1, 1) := by decide +kernel
theorem dX7_keep_6 : decode cX7_keep 6 = .ok (.if_icmp .le 6, 3) := by decide +kernel
theorem dX7_keep_9 : decode cX7_keep 9 = .ok (.bipush (-2), 2) := by decide +kernel
theorem dX7_keep_11 : decode cX7_keep 11 = .ok (.ireturn, 1) := by decide +kernel
theorem dX7_keep_12 : decode cX7_keep 12 = .ok (.aload_n 0, 1) := by decide +kernel
theorem dX7_keep_13 : decode cX7_keep 13 = .ok (.getfield 10, 3) := by decide +kernel
theorem dX7_keep_16 : decode cX7_keep 16 = .ok (.invokevirtual 204, 3) := by decide +kernel
theorem dX7_keep_19 : decode cX7_keep 19 = .ok (.istore_n 2, 1) := by decide +kernel
theorem dX7_keep_20 : decode cX7_keep 20 = .ok (.iconst 0, 1) := by decide +kernel
theorem dX7_keep_21 : decode cX7_keep 21 = .ok (.istore_n 3, 1) := by decide +kernel
theorem dX7_keep_22 : decode cX7_keep 22 = .ok (.iconst 1, 1) := by decide +kernel
theorem dX7_keep_23 : decode cX7_keep 23 = .ok (.istore 4, 2) := by decide +kernel
theorem dX7_keep_25 : decode cX7_keep 25 = .ok (.iload 4, 2) := by decide +kernel
theorem dX7_keep_27 : decode cX7_keep 27 = .ok (.iload_n 2, 1) := by decide +kernel
theorem dX7_keep_28 : decode cX7_keep 28 = .ok (.if_icmp .gt 42, 3) := by decide +kernel
theorem dX7_keep_31 : decode cX7_keep 31 = .ok (.iload 4, 2) := by decide +kernel
theorem dX7_keep_33 : decode cX7_keep 33 = .ok (.iload_n 2, 1) := by decide +kernel
theorem dX7_keep_34 : decode cX7_keep 34 = .ok (.iconst (-1), 1) := by decide +kernel
theorem dX7_keep_35 : decode cX7_keep 35 = .ok (.ixor, 1) := by decide +kernel
theorem dX7_keep_36 : decode cX7_keep 36 = .ok (.iand, 1) := by decide +kernel
theorem dX7_keep_37 : decode cX7_keep 37 = .ok (.ifCond .ne 27, 3) := by decide +kernel
theorem dX7_keep_40 : decode cX7_keep 40 = .ok (.iload 4, 2) := by decide +kernel
theorem dX7_keep_42 : decode cX7_keep 42 = .ok (.invokestatic 110, 3) := by decide +kernel
theorem dX7_keep_45 : decode cX7_keep 45 = .ok (.iload_n 3, 1) := by decide +kernel
theorem dX7_keep_46 : decode cX7_keep 46 = .ok (.invokestatic 110, 3) := by decide +kernel
theorem dX7_keep_49 : decode cX7_keep 49 = .ok (.if_icmp .le 15, 3) := by decide +kernel
theorem dX7_keep_52 : decode cX7_keep 52 = .ok (.aload_n 0, 1) := by decide +kernel
theorem dX7_keep_53 : decode cX7_keep 53 = .ok (.iload 4, 2) := by decide +kernel
theorem dX7_keep_55 : decode cX7_keep 55 = .ok (.invokevirtual 207, 3) := by decide +kernel
theorem dX7_keep_58 : decode cX7_keep 58 = .ok (.ifCond .eq 6, 3) := by decide +kernel
theorem dX7_keep_61 : decode cX7_keep 61 = .ok (.iload 4, 2) := by decide +kernel
theorem dX7_keep_63 : decode cX7_keep 63 = .ok (.istore_n 3, 1) := by decide +kernel
theorem dX7_keep_64 : decode cX7_keep 64 = .ok (.iinc 4 1, 3) := by decide +kernel
theorem dX7_keep_67 : decode cX7_keep 67 = .ok (.goto (-42), 3) := by decide +kernel
theorem dX7_keep_70 : decode cX7_keep 70 = .ok (.iload_n 1, 1) := by decide +kernel
theorem dX7_keep_71 : decode cX7_keep 71 = .ok (.ifCond .ne 10, 3) := by decide +kernel
theorem dX7_keep_74 : decode cX7_keep 74 = .ok (.iload_n 3, 1) := by decide +kernel
theorem dX7_keep_75 : decode cX7_keep 75 = .ok (.invokestatic 110, 3) := by decide +kernel
theorem dX7_keep_78 : decode cX7_keep 78 = .ok (.goto 4, 3) := by decide +kernel
theorem dX7_keep_81 : decode cX7_keep 81 = .ok (.iload_n 3, 1) := by decide +kernel
theorem dX7_keep_82 : decode cX7_keep 82 = .ok (.ireturn, 1) := by decide +kernel
set_option maxRecDepth 20000 in
theorem ggX7_cut_X6_measure : GoodIn wsX7_cut wsX6_measure := goodIn_r _ [11, 12, 13, 14, 15, 16, 17, 18, 19, 53] (by decide +kernel) (by decide +kernel)
set_option maxRecDepth 20000 in
theorem gX7_cut_X6_measure : GoodIn wsX7_cut (wsV RX7 189 RX6 yX6_measure wsX6_measure) := goodIn_app (goodIn_of _ (by decide +kernel)) ggX7_cut_X6_measure
set_option maxRecDepth 20000 in
theorem ggX7_cut_X1_isThere : GoodIn wsX7_cut wsX1_isThere := goodIn_r _ [24, 25, 26, 18, 27, 17, 19, 37, 38, 39, 40, 41, 42, 43, 44, 45, 46, 47, 48, 49, 50, 51, 52] (by decide +kernel) (by decide +kernel)
set_option maxRecDepth 20000 in
theorem gX7_cut_X1_isThere : GoodIn wsX7_cut (wsV RX7 116 RX1 yX1_isThere wsX1_isThere) := goodIn_app (goodIn_of _ (by decide +kernel)) ggX7_cut_X1_isThere
theorem dX7_cut_0 : decode cX7_cut 0 = .ok (.aload_n 0, 1) := by decide +kernel
theorem dX7_cut_1 : decode cX7_cut 1 = .ok (.getfield 48, 3) := by decide +kernel
theorem dX7_cut_4 : decode cX7_cut 4 = .ok (.iconst 0, 1) := by decide +kernel
theorem dX7_cut_5 : decode cX7_cut 5 = .ok (.aload_n 0, 1) := by decide +kernel
theorem dX7_cut_6 : decode cX7_cut 6 = .ok (.getfield 10, 3) := by decide +kernel
theorem dX7_cut_9 : decode cX7_cut 9 = .ok (.getfield 183, 3) := by decide +kernel
theorem dX7_cut_12 : decode cX7_cut 12 = .ok (.sipush 1023, 3) := by decide +kernel
theorem dX7_cut_15 : decode cX7_cut 15 = .ok (.aload_n 0, 1) := by decide +kernel
theorem dX7_cut_16 : decode cX7_cut 16 = .ok (.getfield 10, 3) := by decide +kernel
theorem dX7_cut_19 : decode cX7_cut 19 = .ok (.getfield 186, 3) := by decide +kernel
theorem dX7_cut_22 : decode cX7_cut 22 = .ok (.iconst (-1), 1) := by decide +kernel
theorem dX7_cut_23 : decode cX7_cut 23 = .ok (.ixor, 1) := by decide +kernel
theorem dX7_cut_24 : decode cX7_cut 24 = .ok (.iand, 1) := by decide +kernel
theorem dX7_cut_25 : decode cX7_cut 25 = .ok (.invokevirtual 189, 3) := by decide +kernel
theorem dX7_cut_28 : decode cX7_cut 28 = .ok (.iconst 0, 1) := by decide +kernel
theorem dX7_cut_29 : decode cX7_cut 29 = .ok (.istore_n 1, 1) := by decide +kernel
theorem dX7_cut_30 : decode cX7_cut 30 = .ok (.iconst 0, 1) := by decide +kernel
theorem dX7_cut_31 : decode cX7_cut 31 = .ok (.istore_n 2, 1) := by decide +kernel
theorem dX7_cut_32 : decode cX7_cut 32 = .ok (.iload_n 2, 1) := by decide +kernel
theorem dX7_cut_33 : decode cX7_cut 33 = .ok (.bipush 8, 2) := by decide +kernel
theorem dX7_cut_35 : decode cX7_cut 35 = .ok (.if_icmp .ge 48, 3) := by decide +kernel
theorem dX7_cut_38 : decode cX7_cut 38 = .ok (.aload_n 0, 1) := by decide +kernel
theorem dX7_cut_39 : decode cX7_cut 39 = .ok (.getfield 10, 3) := by decide +kernel
theorem dX7_cut_42 : decode cX7_cut 42 = .ok (.iload_n 2, 1) := by decide +kernel
theorem dX7_cut_43 : decode cX7_cut 43 = .ok (.invokevirtual 116, 3) := by decide +kernel
theorem dX7_cut_46 : decode cX7_cut 46 = .ok (.ifCond .eq 31, 3) := by decide +kernel
theorem dX7_cut_49 : decode cX7_cut 49 = .ok (.aload_n 0, 1) := by decide +kernel
theorem dX7_cut_50 : decode cX7_cut 50 = .ok (.getfield 48, 3) := by decide +kernel
theorem dX7_cut_53 : decode cX7_cut 53 = .ok (.getfield 193, 3) := by decide +kernel
theorem dX7_cut_56 : decode cX7_cut 56 = .ok (.aload_n 0, 1) := by decide +kernel
theorem dX7_cut_57 : decode cX7_cut 57 = .ok (.getfield 10, 3) := by decide +kernel
theorem dX7_cut_60 : decode cX7_cut 60 = .ok (.getfield 104, 3) := by decide +kernel
theorem dX7_cut_63 : decode cX7_cut 63 = .ok (.iload_n 2, 1) := by decide +kernel
theorem dX7_cut_64 : decode cX7_cut 64 = .ok (.iaload, 1) := by decide +kernel
theorem dX7_cut_65 : decode cX7_cut 65 = .ok (.iaload, 1) := by decide +kernel
theorem dX7_cut_66 : decode cX7_cut 66 = .ok (.bipush (-6), 2) := by decide +kernel
theorem dX7_cut_68 : decode cX7_cut 68 = .ok (.if_icmp .ne 9, 3) := by decide +kernel
theorem dX7_cut_71 : decode cX7_cut 71 = .ok (.iload_n 1, 1) := by decide +kernel
theorem dX7_cut_72 : decode cX7_cut 72 = .ok (.iconst 1, 1) := by decide +kernel
theorem dX7_cut_73 : decode cX7_cut 73 = .ok (.iload_n 2, 1) := by decide +kernel
theorem dX7_cut_74 : decode cX7_cut 74 = .ok (.ishl, 1) := by decide +kernel
theorem dX7_cut_75 : decode cX7_cut 75 = .ok (.ior, 1) := by decide +kernel
theorem dX7_cut_76 : decode cX7_cut 76 = .ok (.istore_n 1, 1) := by decide +kernel
theorem dX7_cut_77 : decode cX7_cut 77 = .ok (.iinc 2 1, 3) := by decide +kernel
theorem dX7_cut_80 : decode cX7_cut 80 = .ok (.goto (-48), 3) := by decide +kernel
theorem dX7_cut_83 : decode cX7_cut 83 = .ok (.iload_n 1, 1) := by decide +kernel
theorem dX7_cut_84 : decode cX7_cut 84 = .ok (.ireturn, 1) := by decide +kernel
set_option maxRecDepth 20000 in
theorem ggX7_hold_X5_settle : GoodIn wsX7_hold wsX5_settle := goodIn_r _ [6, 7, 8, 9, 10, 11, 5, 12, 13, 14, 15, 16, 17, 18, 19, 20, 21, 22, 23, 24, 25, 26, 27, 28, 29, 30, 31, 32, 33, 34, 35, 36, 37, 38, 39, 40, 41, 42, 43, 44, 45, 46, 47, 48, 49, 50, 51, 52, 71, 72, 73, 74, 75] (by decide +kernel) (by decide +kernel)
set_option maxRecDepth 20000 in
theorem gX7_hold_X5_settle : GoodIn wsX7_hold (wsV RX7 210 RX5 yX5_settle wsX5_settle) := goodIn_app (goodIn_of _ (by decide +kernel)) ggX7_hold_X5_settle
set_option maxRecDepth 20000 in
theorem ggX7_hold_X5_bestFirst : GoodIn wsX7_hold wsX5_bestFirst := goodIn_r _ [56, 57, 58, 59, 5, 60, 7, 13, 50, 51, 30, 52, 71, 72, 73, 74, 75] (by decide +kernel) (by decide +kernel)
set_option maxRecDepth 20000 in
theorem gX7_hold_X5_bestFirst : GoodIn wsX7_hold (wsV RX7 214 RX5 yX5_bestFirst wsX5_bestFirst) := goodIn_app (goodIn_of _ (by decide +kernel)) ggX7_hold_X5_bestFirst
set_option maxRecDepth 20000 in
theorem ggX7_hold_X5_beatsFrom : GoodIn wsX7_hold wsX5_beatsFrom := goodIn_r _ [60, 7, 13, 50, 51, 30, 52, 71, 72, 73, 74, 75] (by decide +kernel) (by decide +kernel)
set_option maxRecDepth 20000 in
theorem gX7_hold_X5_beatsFrom : GoodIn wsX7_hold (wsV RX7 217 RX5 yX5_beatsFrom wsX5_beatsFrom) := goodIn_app (goodIn_of _ (by decide +kernel)) ggX7_hold_X5_beatsFrom
theorem dX7_hold_0 : decode cX7_hold 0 = .ok (.iload_n 1, 1) := by decide +kernel
theorem dX7_hold_1 : decode cX7_hold 1 = .ok (.bipush 111, 2) := by decide +kernel
theorem dX7_hold_3 : decode cX7_hold 3 = .ok (.if_icmp .lt 27, 3) := by decide +kernel
theorem dX7_hold_6 : decode cX7_hold 6 = .ok (.iload_n 1, 1) := by decide +kernel
theorem dX7_hold_7 : decode cX7_hold 7 = .ok (.sipush 999, 3) := by decide +kernel
theorem dX7_hold_10 : decode cX7_hold 10 = .ok (.if_icmp .gt 20, 3) := by decide +kernel
theorem dX7_hold_13 : decode cX7_hold 13 = .ok (.iload_n 1, 1) := by decide +kernel
theorem dX7_hold_14 : decode cX7_hold 14 = .ok (.bipush 10, 2) := by decide +kernel
theorem dX7_hold_16 : decode cX7_hold 16 = .ok (.irem, 1) := by decide +kernel
theorem dX7_hold_17 : decode cX7_hold 17 = .ok (.ifCond .eq 13, 3) := by decide +kernel
theorem dX7_hold_20 : decode cX7_hold 20 = .ok (.iload_n 1, 1) := by decide +kernel
theorem dX7_hold_21 : decode cX7_hold 21 = .ok (.bipush 10, 2) := by decide +kernel
theorem dX7_hold_23 : decode cX7_hold 23 = .ok (.idiv, 1) := by decide +kernel
theorem dX7_hold_24 : decode cX7_hold 24 = .ok (.bipush 10, 2) := by decide +kernel
theorem dX7_hold_26 : decode cX7_hold 26 = .ok (.irem, 1) := by decide +kernel
theorem dX7_hold_27 : decode cX7_hold 27 = .ok (.ifCond .ne 6, 3) := by decide +kernel
theorem dX7_hold_30 : decode cX7_hold 30 = .ok (.bipush (-2), 2) := by decide +kernel
theorem dX7_hold_32 : decode cX7_hold 32 = .ok (.ireturn, 1) := by decide +kernel
theorem dX7_hold_33 : decode cX7_hold 33 = .ok (.iload_n 2, 1) := by decide +kernel
theorem dX7_hold_34 : decode cX7_hold 34 = .ok (.ifCond .lt 19, 3) := by decide +kernel
theorem dX7_hold_37 : decode cX7_hold 37 = .ok (.iload_n 2, 1) := by decide +kernel
theorem dX7_hold_38 : decode cX7_hold 38 = .ok (.sipush 999, 3) := by decide +kernel
theorem dX7_hold_41 : decode cX7_hold 41 = .ok (.if_icmp .gt 12, 3) := by decide +kernel
theorem dX7_hold_44 : decode cX7_hold 44 = .ok (.iload_n 3, 1) := by decide +kernel
theorem dX7_hold_45 : decode cX7_hold 45 = .ok (.ifCond .lt 8, 3) := by decide +kernel
theorem dX7_hold_48 : decode cX7_hold 48 = .ok (.iload_n 3, 1) := by decide +kernel
theorem dX7_hold_49 : decode cX7_hold 49 = .ok (.iconst 1, 1) := by decide +kernel
theorem dX7_hold_50 : decode cX7_hold 50 = .ok (.if_icmp .le 6, 3) := by decide +kernel
theorem dX7_hold_53 : decode cX7_hold 53 = .ok (.bipush (-2), 2) := by decide +kernel
theorem dX7_hold_55 : decode cX7_hold 55 = .ok (.ireturn, 1) := by decide +kernel
theorem dX7_hold_56 : decode cX7_hold 56 = .ok (.aload_n 0, 1) := by decide +kernel
theorem dX7_hold_57 : decode cX7_hold 57 = .ok (.getfield 62, 3) := by decide +kernel
theorem dX7_hold_60 : decode cX7_hold 60 = .ok (.iload_n 1, 1) := by decide +kernel
theorem dX7_hold_61 : decode cX7_hold 61 = .ok (.iload_n 2, 1) := by decide +kernel
theorem dX7_hold_62 : decode cX7_hold 62 = .ok (.invokevirtual 210, 3) := by decide +kernel
theorem dX7_hold_65 : decode cX7_hold 65 = .ok (.aload_n 0, 1) := by decide +kernel
theorem dX7_hold_66 : decode cX7_hold 66 = .ok (.getfield 62, 3) := by decide +kernel
theorem dX7_hold_69 : decode cX7_hold 69 = .ok (.invokevirtual 214, 3) := by decide +kernel
theorem dX7_hold_72 : decode cX7_hold 72 = .ok (.istore 4, 2) := by decide +kernel
theorem dX7_hold_74 : decode cX7_hold 74 = .ok (.iload_n 3, 1) := by decide +kernel
theorem dX7_hold_75 : decode cX7_hold 75 = .ok (.ifCond .ne 15, 3) := by decide +kernel
theorem dX7_hold_78 : decode cX7_hold 78 = .ok (.aload_n 0, 1) := by decide +kernel
theorem dX7_hold_79 : decode cX7_hold 79 = .ok (.getfield 62, 3) := by decide +kernel
theorem dX7_hold_82 : decode cX7_hold 82 = .ok (.iload 4, 2) := by decide +kernel
theorem dX7_hold_84 : decode cX7_hold 84 = .ok (.invokevirtual 217, 3) := by decide +kernel
theorem dX7_hold_87 : decode cX7_hold 87 = .ok (.goto 5, 3) := by decide +kernel
theorem dX7_hold_90 : decode cX7_hold 90 = .ok (.iload 4, 2) := by decide +kernel
theorem dX7_hold_92 : decode cX7_hold 92 = .ok (.ireturn, 1) := by decide +kernel
theorem dX7_round_0 : decode cX7_round 0 = .ok (.iload_n 1, 1) := by decide +kernel
theorem dX7_round_1 : decode cX7_round 1 = .ok (.iconst 1, 1) := by decide +kernel
theorem dX7_round_2 : decode cX7_round 2 = .ok (.if_icmp .lt 42, 3) := by decide +kernel
theorem dX7_round_5 : decode cX7_round 5 = .ok (.iload_n 1, 1) := by decide +kernel
theorem dX7_round_6 : decode cX7_round 6 = .ok (.bipush 99, 2) := by decide +kernel
theorem dX7_round_8 : decode cX7_round 8 = .ok (.if_icmp .gt 36, 3) := by decide +kernel
theorem dX7_round_11 : decode cX7_round 11 = .ok (.iload_n 3, 1) := by decide +kernel
theorem dX7_round_12 : decode cX7_round 12 = .ok (.iconst 1, 1) := by decide +kernel
theorem dX7_round_13 : decode cX7_round 13 = .ok (.if_icmp .lt 31, 3) := by decide +kernel
theorem dX7_round_16 : decode cX7_round 16 = .ok (.iload_n 3, 1) := by decide +kernel
