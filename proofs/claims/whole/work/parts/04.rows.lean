theorem dX0_init_0 : decode cX0_init 0 = .ok (.aload_n 0, 1) := by decide +kernel
theorem dX0_init_1 : decode cX0_init 1 = .ok (.invokespecial 3, 3) := by decide +kernel
theorem dX0_init_4 : decode cX0_init 4 = .ok (.aload_n 0, 1) := by decide +kernel
theorem dX0_init_5 : decode cX0_init 5 = .ok (.bipush 10, 2) := by decide +kernel
theorem dX0_init_7 : decode cX0_init 7 = .ok (.newarray .int, 2) := by decide +kernel
theorem dX0_init_9 : decode cX0_init 9 = .ok (.putfield 9, 3) := by decide +kernel
theorem dX0_init_12 : decode cX0_init 12 = .ok (.aload_n 0, 1) := by decide +kernel
theorem dX0_init_13 : decode cX0_init 13 = .ok (.bipush 10, 2) := by decide +kernel
theorem dX0_init_15 : decode cX0_init 15 = .ok (.newarray .int, 2) := by decide +kernel
theorem dX0_init_17 : decode cX0_init 17 = .ok (.putfield 15, 3) := by decide +kernel
theorem dX0_init_20 : decode cX0_init 20 = .ok (.return_, 1) := by decide +kernel
set_option maxRecDepth 20000 in
theorem ggX0_shineOn_J7_fill_53178 : GoodIn wsX0_shineOn wsJ7_fill_53178 := goodIn_r _ [18] (by decide +kernel) (by decide +kernel)
set_option maxRecDepth 20000 in
theorem gX0_shineOn_J7_fill_53178 : GoodIn wsX0_shineOn (va_wsS RX0 18 yJ7_fill_53178 wsJ7_fill_53178) := goodIn_app (goodIn_of _ (by decide +kernel)) ggX0_shineOn_J7_fill_53178
set_option maxRecDepth 20000 in
theorem ggX0_shineOn_X1_isSinging : GoodIn wsX0_shineOn wsX1_isSinging := goodIn_r _ [23, 24, 48, 49, 50, 51, 52, 53, 54, 55, 56, 57, 58, 59, 60, 61, 62, 63] (by decide +kernel) (by decide +kernel)
set_option maxRecDepth 20000 in
theorem gX0_shineOn_X1_isSinging : GoodIn wsX0_shineOn (wsV RX0 24 RX1 yX1_isSinging wsX1_isSinging) := goodIn_app (goodIn_of _ (by decide +kernel)) ggX0_shineOn_X1_isSinging
set_option maxRecDepth 20000 in
theorem ggX0_shineOn_X1_isTakenOut : GoodIn wsX0_shineOn wsX1_isTakenOut := goodIn_r _ [28, 29, 30, 31, 32, 33, 34, 35, 36, 22, 37, 24, 38, 39, 6, 40, 41, 42, 43, 44, 48, 49, 50, 51, 52, 53, 54, 55, 56, 57, 58, 59, 60, 61, 62, 63] (by decide +kernel) (by decide +kernel)
set_option maxRecDepth 20000 in
theorem gX0_shineOn_X1_isTakenOut : GoodIn wsX0_shineOn (wsV RX0 30 RX1 yX1_isTakenOut wsX1_isTakenOut) := goodIn_app (goodIn_of _ (by decide +kernel)) ggX0_shineOn_X1_isTakenOut
theorem dX0_shineOn_0 : decode cX0_shineOn 0 = .ok (.aload_n 0, 1) := by decide +kernel
theorem dX0_shineOn_1 : decode cX0_shineOn 1 = .ok (.getfield 9, 3) := by decide +kernel
theorem dX0_shineOn_4 : decode cX0_shineOn 4 = .ok (.iconst 0, 1) := by decide +kernel
theorem dX0_shineOn_5 : decode cX0_shineOn 5 = .ok (.invokestatic 18, 3) := by decide +kernel
theorem dX0_shineOn_8 : decode cX0_shineOn 8 = .ok (.iconst 0, 1) := by decide +kernel
theorem dX0_shineOn_9 : decode cX0_shineOn 9 = .ok (.istore_n 2, 1) := by decide +kernel
theorem dX0_shineOn_10 : decode cX0_shineOn 10 = .ok (.iload_n 2, 1) := by decide +kernel
theorem dX0_shineOn_11 : decode cX0_shineOn 11 = .ok (.bipush 8, 2) := by decide +kernel
theorem dX0_shineOn_13 : decode cX0_shineOn 13 = .ok (.if_icmp .ge 55, 3) := by decide +kernel
theorem dX0_shineOn_16 : decode cX0_shineOn 16 = .ok (.aload_n 1, 1) := by decide +kernel
theorem dX0_shineOn_17 : decode cX0_shineOn 17 = .ok (.iload_n 2, 1) := by decide +kernel
theorem dX0_shineOn_18 : decode cX0_shineOn 18 = .ok (.invokevirtual 24, 3) := by decide +kernel
theorem dX0_shineOn_21 : decode cX0_shineOn 21 = .ok (.ifCond .eq 41, 3) := by decide +kernel
theorem dX0_shineOn_24 : decode cX0_shineOn 24 = .ok (.aload_n 1, 1) := by decide +kernel
theorem dX0_shineOn_25 : decode cX0_shineOn 25 = .ok (.iload_n 2, 1) := by decide +kernel
theorem dX0_shineOn_26 : decode cX0_shineOn 26 = .ok (.invokevirtual 30, 3) := by decide +kernel
theorem dX0_shineOn_29 : decode cX0_shineOn 29 = .ok (.ifCond .ne 33, 3) := by decide +kernel
theorem dX0_shineOn_32 : decode cX0_shineOn 32 = .ok (.aload_n 1, 1) := by decide +kernel
theorem dX0_shineOn_33 : decode cX0_shineOn 33 = .ok (.getfield 33, 3) := by decide +kernel
theorem dX0_shineOn_36 : decode cX0_shineOn 36 = .ok (.iload_n 2, 1) := by decide +kernel
theorem dX0_shineOn_37 : decode cX0_shineOn 37 = .ok (.iaload, 1) := by decide +kernel
theorem dX0_shineOn_38 : decode cX0_shineOn 38 = .ok (.istore_n 3, 1) := by decide +kernel
theorem dX0_shineOn_39 : decode cX0_shineOn 39 = .ok (.aload_n 0, 1) := by decide +kernel
theorem dX0_shineOn_40 : decode cX0_shineOn 40 = .ok (.getfield 9, 3) := by decide +kernel
theorem dX0_shineOn_43 : decode cX0_shineOn 43 = .ok (.iload_n 3, 1) := by decide +kernel
theorem dX0_shineOn_44 : decode cX0_shineOn 44 = .ok (.aload_n 0, 1) := by decide +kernel
theorem dX0_shineOn_45 : decode cX0_shineOn 45 = .ok (.getfield 9, 3) := by decide +kernel
theorem dX0_shineOn_48 : decode cX0_shineOn 48 = .ok (.iload_n 3, 1) := by decide +kernel
theorem dX0_shineOn_49 : decode cX0_shineOn 49 = .ok (.iaload, 1) := by decide +kernel
theorem dX0_shineOn_50 : decode cX0_shineOn 50 = .ok (.iconst 1, 1) := by decide +kernel
theorem dX0_shineOn_51 : decode cX0_shineOn 51 = .ok (.aload_n 1, 1) := by decide +kernel
theorem dX0_shineOn_52 : decode cX0_shineOn 52 = .ok (.getfield 36, 3) := by decide +kernel
theorem dX0_shineOn_55 : decode cX0_shineOn 55 = .ok (.iload_n 2, 1) := by decide +kernel
theorem dX0_shineOn_56 : decode cX0_shineOn 56 = .ok (.iaload, 1) := by decide +kernel
theorem dX0_shineOn_57 : decode cX0_shineOn 57 = .ok (.iadd, 1) := by decide +kernel
theorem dX0_shineOn_58 : decode cX0_shineOn 58 = .ok (.invokestatic 39, 3) := by decide +kernel
theorem dX0_shineOn_61 : decode cX0_shineOn 61 = .ok (.iastore, 1) := by decide +kernel
theorem dX0_shineOn_62 : decode cX0_shineOn 62 = .ok (.iinc 2 1, 3) := by decide +kernel
theorem dX0_shineOn_65 : decode cX0_shineOn 65 = .ok (.goto (-55), 3) := by decide +kernel
theorem dX0_shineOn_68 : decode cX0_shineOn 68 = .ok (.aload_n 0, 1) := by decide +kernel
theorem dX0_shineOn_69 : decode cX0_shineOn 69 = .ok (.getfield 9, 3) := by decide +kernel
theorem dX0_shineOn_72 : decode cX0_shineOn 72 = .ok (.iconst 0, 1) := by decide +kernel
theorem dX0_shineOn_73 : decode cX0_shineOn 73 = .ok (.aload_n 0, 1) := by decide +kernel
theorem dX0_shineOn_74 : decode cX0_shineOn 74 = .ok (.getfield 15, 3) := by decide +kernel
theorem dX0_shineOn_77 : decode cX0_shineOn 77 = .ok (.iconst 0, 1) := by decide +kernel
theorem dX0_shineOn_78 : decode cX0_shineOn 78 = .ok (.bipush 10, 2) := by decide +kernel
theorem dX0_shineOn_80 : decode cX0_shineOn 80 = .ok (.invokestatic 45, 3) := by decide +kernel
theorem dX0_shineOn_83 : decode cX0_shineOn 83 = .ok (.iconst 0, 1) := by decide +kernel
theorem dX0_shineOn_84 : decode cX0_shineOn 84 = .ok (.istore_n 2, 1) := by decide +kernel
theorem dX0_shineOn_85 : decode cX0_shineOn 85 = .ok (.iload_n 2, 1) := by decide +kernel
theorem dX0_shineOn_86 : decode cX0_shineOn 86 = .ok (.bipush 10, 2) := by decide +kernel
theorem dX0_shineOn_88 : decode cX0_shineOn 88 = .ok (.if_icmp .ge 39, 3) := by decide +kernel
theorem dX0_shineOn_91 : decode cX0_shineOn 91 = .ok (.aload_n 1, 1) := by decide +kernel
theorem dX0_shineOn_92 : decode cX0_shineOn 92 = .ok (.getfield 51, 3) := by decide +kernel
theorem dX0_shineOn_95 : decode cX0_shineOn 95 = .ok (.iload_n 2, 1) := by decide +kernel
theorem dX0_shineOn_96 : decode cX0_shineOn 96 = .ok (.iaload, 1) := by decide +kernel
theorem dX0_shineOn_97 : decode cX0_shineOn 97 = .ok (.istore_n 3, 1) := by decide +kernel
theorem dX0_shineOn_98 : decode cX0_shineOn 98 = .ok (.aload_n 0, 1) := by decide +kernel
theorem dX0_shineOn_99 : decode cX0_shineOn 99 = .ok (.getfield 15, 3) := by decide +kernel
theorem dX0_shineOn_102 : decode cX0_shineOn 102 = .ok (.iload_n 3, 1) := by decide +kernel
theorem dX0_shineOn_103 : decode cX0_shineOn 103 = .ok (.aload_n 0, 1) := by decide +kernel
theorem dX0_shineOn_104 : decode cX0_shineOn 104 = .ok (.getfield 15, 3) := by decide +kernel
theorem dX0_shineOn_107 : decode cX0_shineOn 107 = .ok (.iload_n 3, 1) := by decide +kernel
theorem dX0_shineOn_108 : decode cX0_shineOn 108 = .ok (.iaload, 1) := by decide +kernel
theorem dX0_shineOn_109 : decode cX0_shineOn 109 = .ok (.aload_n 0, 1) := by decide +kernel
theorem dX0_shineOn_110 : decode cX0_shineOn 110 = .ok (.getfield 9, 3) := by decide +kernel
theorem dX0_shineOn_113 : decode cX0_shineOn 113 = .ok (.iload_n 2, 1) := by decide +kernel
theorem dX0_shineOn_114 : decode cX0_shineOn 114 = .ok (.iaload, 1) := by decide +kernel
theorem dX0_shineOn_115 : decode cX0_shineOn 115 = .ok (.iconst 2, 1) := by decide +kernel
theorem dX0_shineOn_116 : decode cX0_shineOn 116 = .ok (.idiv, 1) := by decide +kernel
theorem dX0_shineOn_117 : decode cX0_shineOn 117 = .ok (.invokestatic 39, 3) := by decide +kernel
theorem dX0_shineOn_120 : decode cX0_shineOn 120 = .ok (.iastore, 1) := by decide +kernel
theorem dX0_shineOn_121 : decode cX0_shineOn 121 = .ok (.iinc 2 1, 3) := by decide +kernel
theorem dX0_shineOn_124 : decode cX0_shineOn 124 = .ok (.goto (-39), 3) := by decide +kernel
theorem dX0_shineOn_127 : decode cX0_shineOn 127 = .ok (.aload_n 0, 1) := by decide +kernel
theorem dX0_shineOn_128 : decode cX0_shineOn 128 = .ok (.iconst 0, 1) := by decide +kernel
theorem dX0_shineOn_129 : decode cX0_shineOn 129 = .ok (.putfield 54, 3) := by decide +kernel
theorem dX0_shineOn_132 : decode cX0_shineOn 132 = .ok (.iconst 0, 1) := by decide +kernel
theorem dX0_shineOn_133 : decode cX0_shineOn 133 = .ok (.istore_n 2, 1) := by decide +kernel
theorem dX0_shineOn_134 : decode cX0_shineOn 134 = .ok (.iload_n 2, 1) := by decide +kernel
theorem dX0_shineOn_135 : decode cX0_shineOn 135 = .ok (.bipush 10, 2) := by decide +kernel
theorem dX0_shineOn_137 : decode cX0_shineOn 137 = .ok (.if_icmp .ge 34, 3) := by decide +kernel
theorem dX0_shineOn_140 : decode cX0_shineOn 140 = .ok (.aload_n 0, 1) := by decide +kernel
theorem dX0_shineOn_141 : decode cX0_shineOn 141 = .ok (.dup, 1) := by decide +kernel
theorem dX0_shineOn_142 : decode cX0_shineOn 142 = .ok (.getfield 54, 3) := by decide +kernel
theorem dX0_shineOn_145 : decode cX0_shineOn 145 = .ok (.aload_n 0, 1) := by decide +kernel
theorem dX0_shineOn_146 : decode cX0_shineOn 146 = .ok (.getfield 15, 3) := by decide +kernel
theorem dX0_shineOn_149 : decode cX0_shineOn 149 = .ok (.iload_n 2, 1) := by decide +kernel
theorem dX0_shineOn_150 : decode cX0_shineOn 150 = .ok (.iaload, 1) := by decide +kernel
theorem dX0_shineOn_151 : decode cX0_shineOn 151 = .ok (.ifCond .le 9, 3) := by decide +kernel
theorem dX0_shineOn_154 : decode cX0_shineOn 154 = .ok (.iconst 1, 1) := by decide +kernel
theorem dX0_shineOn_155 : decode cX0_shineOn 155 = .ok (.iload_n 2, 1) := by decide +kernel
theorem dX0_shineOn_156 : decode cX0_shineOn 156 = .ok (.ishl, 1) := by decide +kernel
theorem dX0_shineOn_157 : decode cX0_shineOn 157 = .ok (.goto 4, 3) := by decide +kernel
theorem dX0_shineOn_160 : decode cX0_shineOn 160 = .ok (.iconst 0, 1) := by decide +kernel
theorem dX0_shineOn_161 : decode cX0_shineOn 161 = .ok (.ior, 1) := by decide +kernel
theorem dX0_shineOn_162 : decode cX0_shineOn 162 = .ok (.putfield 54, 3) := by decide +kernel
theorem dX0_shineOn_165 : decode cX0_shineOn 165 = .ok (.iinc 2 1, 3) := by decide +kernel
theorem dX0_shineOn_168 : decode cX0_shineOn 168 = .ok (.goto (-34), 3) := by decide +kernel
theorem dX0_shineOn_171 : decode cX0_shineOn 171 = .ok (.return_, 1) := by decide +kernel
set_option maxRecDepth 20000 in
theorem ggX1_init_J7_fill_53178 : GoodIn wsX1_init wsJ7_fill_53178 := goodIn_r _ [19] (by decide +kernel) (by decide +kernel)
set_option maxRecDepth 20000 in
theorem gX1_init_J7_fill_53178 : GoodIn wsX1_init (va_wsS RX1 45 yJ7_fill_53178 wsJ7_fill_53178) := goodIn_app (goodIn_of _ (by decide +kernel)) ggX1_init_J7_fill_53178
theorem dX1_init_0 : decode cX1_init 0 = .ok (.aload_n 0, 1) := by decide +kernel
theorem dX1_init_1 : decode cX1_init 1 = .ok (.invokespecial 3, 3) := by decide +kernel
theorem dX1_init_4 : decode cX1_init 4 = .ok (.aload_n 0, 1) := by decide +kernel
theorem dX1_init_5 : decode cX1_init 5 = .ok (.bipush 10, 2) := by decide +kernel
theorem dX1_init_7 : decode cX1_init 7 = .ok (.newarray .int, 2) := by decide +kernel
theorem dX1_init_9 : decode cX1_init 9 = .ok (.putfield 9, 3) := by decide +kernel
theorem dX1_init_12 : decode cX1_init 12 = .ok (.aload_n 0, 1) := by decide +kernel
theorem dX1_init_13 : decode cX1_init 13 = .ok (.bipush 10, 2) := by decide +kernel
theorem dX1_init_15 : decode cX1_init 15 = .ok (.newarray .int, 2) := by decide +kernel
theorem dX1_init_17 : decode cX1_init 17 = .ok (.putfield 15, 3) := by decide +kernel
theorem dX1_init_20 : decode cX1_init 20 = .ok (.aload_n 0, 1) := by decide +kernel
theorem dX1_init_21 : decode cX1_init 21 = .ok (.bipush 10, 2) := by decide +kernel
theorem dX1_init_23 : decode cX1_init 23 = .ok (.newarray .int, 2) := by decide +kernel
theorem dX1_init_25 : decode cX1_init 25 = .ok (.putfield 18, 3) := by decide +kernel
theorem dX1_init_28 : decode cX1_init 28 = .ok (.aload_n 0, 1) := by decide +kernel
theorem dX1_init_29 : decode cX1_init 29 = .ok (.bipush 8, 2) := by decide +kernel
theorem dX1_init_31 : decode cX1_init 31 = .ok (.newarray .int, 2) := by decide +kernel
theorem dX1_init_33 : decode cX1_init 33 = .ok (.putfield 21, 3) := by decide +kernel
theorem dX1_init_36 : decode cX1_init 36 = .ok (.aload_n 0, 1) := by decide +kernel
theorem dX1_init_37 : decode cX1_init 37 = .ok (.bipush 8, 2) := by decide +kernel
theorem dX1_init_39 : decode cX1_init 39 = .ok (.newarray .int, 2) := by decide +kernel
theorem dX1_init_41 : decode cX1_init 41 = .ok (.putfield 24, 3) := by decide +kernel
theorem dX1_init_44 : decode cX1_init 44 = .ok (.aload_n 0, 1) := by decide +kernel
theorem dX1_init_45 : decode cX1_init 45 = .ok (.bipush 8, 2) := by decide +kernel
theorem dX1_init_47 : decode cX1_init 47 = .ok (.newarray .int, 2) := by decide +kernel
theorem dX1_init_49 : decode cX1_init 49 = .ok (.putfield 27, 3) := by decide +kernel
theorem dX1_init_52 : decode cX1_init 52 = .ok (.aload_n 0, 1) := by decide +kernel
theorem dX1_init_53 : decode cX1_init 53 = .ok (.bipush 8, 2) := by decide +kernel
theorem dX1_init_55 : decode cX1_init 55 = .ok (.newarray .int, 2) := by decide +kernel
theorem dX1_init_57 : decode cX1_init 57 = .ok (.putfield 30, 3) := by decide +kernel
theorem dX1_init_60 : decode cX1_init 60 = .ok (.aload_n 0, 1) := by decide +kernel
theorem dX1_init_61 : decode cX1_init 61 = .ok (.bipush 8, 2) := by decide +kernel
theorem dX1_init_63 : decode cX1_init 63 = .ok (.newarray .int, 2) := by decide +kernel
theorem dX1_init_65 : decode cX1_init 65 = .ok (.putfield 33, 3) := by decide +kernel
theorem dX1_init_68 : decode cX1_init 68 = .ok (.aload_n 0, 1) := by decide +kernel
theorem dX1_init_69 : decode cX1_init 69 = .ok (.bipush 8, 2) := by decide +kernel
theorem dX1_init_71 : decode cX1_init 71 = .ok (.newarray .int, 2) := by decide +kernel
theorem dX1_init_73 : decode cX1_init 73 = .ok (.putfield 36, 3) := by decide +kernel
theorem dX1_init_76 : decode cX1_init 76 = .ok (.aload_n 0, 1) := by decide +kernel
theorem dX1_init_77 : decode cX1_init 77 = .ok (.bipush 8, 2) := by decide +kernel
theorem dX1_init_79 : decode cX1_init 79 = .ok (.newarray .int, 2) := by decide +kernel
theorem dX1_init_81 : decode cX1_init 81 = .ok (.putfield 39, 3) := by decide +kernel
theorem dX1_init_84 : decode cX1_init 84 = .ok (.aload_n 0, 1) := by decide +kernel
theorem dX1_init_85 : decode cX1_init 85 = .ok (.bipush 8, 2) := by decide +kernel
theorem dX1_init_87 : decode cX1_init 87 = .ok (.newarray .int, 2) := by decide +kernel
theorem dX1_init_89 : decode cX1_init 89 = .ok (.putfield 42, 3) := by decide +kernel
theorem dX1_init_92 : decode cX1_init 92 = .ok (.iconst 0, 1) := by decide +kernel
theorem dX1_init_93 : decode cX1_init 93 = .ok (.istore_n 1, 1) := by decide +kernel
theorem dX1_init_94 : decode cX1_init 94 = .ok (.iload_n 1, 1) := by decide +kernel
theorem dX1_init_95 : decode cX1_init 95 = .ok (.bipush 10, 2) := by decide +kernel
theorem dX1_init_97 : decode cX1_init 97 = .ok (.if_icmp .ge 16, 3) := by decide +kernel
theorem dX1_init_100 : decode cX1_init 100 = .ok (.aload_n 0, 1) := by decide +kernel
theorem dX1_init_101 : decode cX1_init 101 = .ok (.getfield 15, 3) := by decide +kernel
theorem dX1_init_104 : decode cX1_init 104 = .ok (.iload_n 1, 1) := by decide +kernel
theorem dX1_init_105 : decode cX1_init 105 = .ok (.iload_n 1, 1) := by decide +kernel
theorem dX1_init_106 : decode cX1_init 106 = .ok (.iastore, 1) := by decide +kernel
theorem dX1_init_107 : decode cX1_init 107 = .ok (.iinc 1 1, 3) := by decide +kernel
theorem dX1_init_110 : decode cX1_init 110 = .ok (.goto (-16), 3) := by decide +kernel
theorem dX1_init_113 : decode cX1_init 113 = .ok (.aload_n 0, 1) := by decide +kernel
theorem dX1_init_114 : decode cX1_init 114 = .ok (.getfield 36, 3) := by decide +kernel
theorem dX1_init_117 : decode cX1_init 117 = .ok (.iconst (-1), 1) := by decide +kernel
theorem dX1_init_118 : decode cX1_init 118 = .ok (.invokestatic 45, 3) := by decide +kernel
theorem dX1_init_121 : decode cX1_init 121 = .ok (.return_, 1) := by decide +kernel
theorem dX1_become_0 : decode cX1_become 0 = .ok (.aload_n 0, 1) := by decide +kernel
theorem dX1_become_1 : decode cX1_become 1 = .ok (.aload_n 1, 1) := by decide +kernel
theorem dX1_become_2 : decode cX1_become 2 = .ok (.getfield 51, 3) := by decide +kernel
theorem dX1_become_5 : decode cX1_become 5 = .ok (.putfield 51, 3) := by decide +kernel
theorem dX1_become_8 : decode cX1_become 8 = .ok (.aload_n 0, 1) := by decide +kernel
theorem dX1_become_9 : decode cX1_become 9 = .ok (.aload_n 1, 1) := by decide +kernel
theorem dX1_become_10 : decode cX1_become 10 = .ok (.getfield 55, 3) := by decide +kernel
theorem dX1_become_13 : decode cX1_become 13 = .ok (.putfield 55, 3) := by decide +kernel
theorem dX1_become_16 : decode cX1_become 16 = .ok (.aload_n 0, 1) := by decide +kernel
theorem dX1_become_17 : decode cX1_become 17 = .ok (.aload_n 1, 1) := by decide +kernel
theorem dX1_become_18 : decode cX1_become 18 = .ok (.getfield 58, 3) := by decide +kernel
theorem dX1_become_21 : decode cX1_become 21 = .ok (.putfield 58, 3) := by decide +kernel
theorem dX1_become_24 : decode cX1_become 24 = .ok (.aload_n 0, 1) := by decide +kernel
theorem dX1_become_25 : decode cX1_become 25 = .ok (.aload_n 1, 1) := by decide +kernel
theorem dX1_become_26 : decode cX1_become 26 = .ok (.getfield 61, 3) := by decide +kernel
theorem dX1_become_29 : decode cX1_become 29 = .ok (.putfield 61, 3) := by decide +kernel
theorem dX1_become_32 : decode cX1_become 32 = .ok (.aload_n 0, 1) := by decide +kernel
theorem dX1_become_33 : decode cX1_become 33 = .ok (.aload_n 1, 1) := by decide +kernel
theorem dX1_become_34 : decode cX1_become 34 = .ok (.getfield 64, 3) := by decide +kernel
theorem dX1_become_37 : decode cX1_become 37 = .ok (.putfield 64, 3) := by decide +kernel
theorem dX1_become_40 : decode cX1_become 40 = .ok (.aload_n 1, 1) := by decide +kernel
theorem dX1_become_41 : decode cX1_become 41 = .ok (.getfield 9, 3) := by decide +kernel
theorem dX1_become_44 : decode cX1_become 44 = .ok (.iconst 0, 1) := by decide +kernel
theorem dX1_become_45 : decode cX1_become 45 = .ok (.aload_n 0, 1) := by decide +kernel
theorem dX1_become_46 : decode cX1_become 46 = .ok (.getfield 9, 3) := by decide +kernel
theorem dX1_become_49 : decode cX1_become 49 = .ok (.iconst 0, 1) := by decide +kernel
theorem dX1_become_50 : decode cX1_become 50 = .ok (.bipush 10, 2) := by decide +kernel
theorem dX1_become_52 : decode cX1_become 52 = .ok (.invokestatic 67, 3) := by decide +kernel
theorem dX1_become_55 : decode cX1_become 55 = .ok (.aload_n 1, 1) := by decide +kernel
theorem dX1_become_56 : decode cX1_become 56 = .ok (.getfield 15, 3) := by decide +kernel
theorem dX1_become_59 : decode cX1_become 59 = .ok (.iconst 0, 1) := by decide +kernel
theorem dX1_become_60 : decode cX1_become 60 = .ok (.aload_n 0, 1) := by decide +kernel
theorem dX1_become_61 : decode cX1_become 61 = .ok (.getfield 15, 3) := by decide +kernel
theorem dX1_become_64 : decode cX1_become 64 = .ok (.iconst 0, 1) := by decide +kernel
theorem dX1_become_65 : decode cX1_become 65 = .ok (.bipush 10, 2) := by decide +kernel
theorem dX1_become_67 : decode cX1_become 67 = .ok (.invokestatic 67, 3) := by decide +kernel
theorem dX1_become_70 : decode cX1_become 70 = .ok (.aload_n 1, 1) := by decide +kernel
theorem dX1_become_71 : decode cX1_become 71 = .ok (.getfield 18, 3) := by decide +kernel
theorem dX1_become_74 : decode cX1_become 74 = .ok (.iconst 0, 1) := by decide +kernel
theorem dX1_become_75 : decode cX1_become 75 = .ok (.aload_n 0, 1) := by decide +kernel
theorem dX1_become_76 : decode cX1_become 76 = .ok (.getfield 18, 3) := by decide +kernel
theorem dX1_become_79 : decode cX1_become 79 = .ok (.iconst 0, 1) := by decide +kernel
theorem dX1_become_80 : decode cX1_become 80 = .ok (.bipush 10, 2) := by decide +kernel
theorem dX1_become_82 : decode cX1_become 82 = .ok (.invokestatic 67, 3) := by decide +kernel
theorem dX1_become_85 : decode cX1_become 85 = .ok (.aload_n 1, 1) := by decide +kernel
theorem dX1_become_86 : decode cX1_become 86 = .ok (.getfield 21, 3) := by decide +kernel
theorem dX1_become_89 : decode cX1_become 89 = .ok (.iconst 0, 1) := by decide +kernel
theorem dX1_become_90 : decode cX1_become 90 = .ok (.aload_n 0, 1) := by decide +kernel
theorem dX1_become_91 : decode cX1_become 91 = .ok (.getfield 21, 3) := by decide +kernel
theorem dX1_become_94 : decode cX1_become 94 = .ok (.iconst 0, 1) := by decide +kernel
theorem dX1_become_95 : decode cX1_become 95 = .ok (.bipush 8, 2) := by decide +kernel
theorem dX1_become_97 : decode cX1_become 97 = .ok (.invokestatic 67, 3) := by decide +kernel
theorem dX1_become_100 : decode cX1_become 100 = .ok (.aload_n 1, 1) := by decide +kernel
theorem dX1_become_101 : decode cX1_become 101 = .ok (.getfield 24, 3) := by decide +kernel
theorem dX1_become_104 : decode cX1_become 104 = .ok (.iconst 0, 1) := by decide +kernel
theorem dX1_become_105 : decode cX1_become 105 = .ok (.aload_n 0, 1) := by decide +kernel
theorem dX1_become_106 : decode cX1_become 106 = .ok (.getfield 24, 3) := by decide +kernel
theorem dX1_become_109 : decode cX1_become 109 = .ok (.iconst 0, 1) := by decide +kernel
theorem dX1_become_110 : decode cX1_become 110 = .ok (.bipush 8, 2) := by decide +kernel
theorem dX1_become_112 : decode cX1_become 112 = .ok (.invokestatic 67, 3) := by decide +kernel
theorem dX1_become_115 : decode cX1_become 115 = .ok (.aload_n 1, 1) := by decide +kernel
theorem dX1_become_116 : decode cX1_become 116 = .ok (.getfield 27, 3) := by decide +kernel
theorem dX1_become_119 : decode cX1_become 119 = .ok (.iconst 0, 1) := by decide +kernel
theorem dX1_become_120 : decode cX1_become 120 = .ok (.aload_n 0, 1) := by decide +kernel
theorem dX1_become_121 : decode cX1_become 121 = .ok (.getfield 27, 3) := by decide +kernel
theorem dX1_become_124 : decode cX1_become 124 = .ok (.iconst 0, 1) := by decide +kernel
theorem dX1_become_125 : decode cX1_become 125 = .ok (.bipush 8, 2) := by decide +kernel
theorem dX1_become_127 : decode cX1_become 127 = .ok (.invokestatic 67, 3) := by decide +kernel
theorem dX1_become_130 : decode cX1_become 130 = .ok (.aload_n 1, 1) := by decide +kernel
theorem dX1_become_131 : decode cX1_become 131 = .ok (.getfield 30, 3) := by decide +kernel
theorem dX1_become_134 : decode cX1_become 134 = .ok (.iconst 0, 1) := by decide +kernel
theorem dX1_become_135 : decode cX1_become 135 = .ok (.aload_n 0, 1) := by decide +kernel
theorem dX1_become_136 : decode cX1_become 136 = .ok (.getfield 30, 3) := by decide +kernel
theorem dX1_become_139 : decode cX1_become 139 = .ok (.iconst 0, 1) := by decide +kernel
theorem dX1_become_140 : decode cX1_become 140 = .ok (.bipush 8, 2) := by decide +kernel
theorem dX1_become_142 : decode cX1_become 142 = .ok (.invokestatic 67, 3) := by decide +kernel
theorem dX1_become_145 : decode cX1_become 145 = .ok (.aload_n 1, 1) := by decide +kernel
theorem dX1_become_146 : decode cX1_become 146 = .ok (.getfield 33, 3) := by decide +kernel
theorem dX1_become_149 : decode cX1_become 149 = .ok (.iconst 0, 1) := by decide +kernel
theorem dX1_become_150 : decode cX1_become 150 = .ok (.aload_n 0, 1) := by decide +kernel
theorem dX1_become_151 : decode cX1_become 151 = .ok (.getfield 33, 3) := by decide +kernel
theorem dX1_become_154 : decode cX1_become 154 = .ok (.iconst 0, 1) := by decide +kernel
theorem dX1_become_155 : decode cX1_become 155 = .ok (.bipush 8, 2) := by decide +kernel
theorem dX1_become_157 : decode cX1_become 157 = .ok (.invokestatic 67, 3) := by decide +kernel
theorem dX1_become_160 : decode cX1_become 160 = .ok (.aload_n 1, 1) := by decide +kernel
theorem dX1_become_161 : decode cX1_become 161 = .ok (.getfield 36, 3) := by decide +kernel
theorem dX1_become_164 : decode cX1_become 164 = .ok (.iconst 0, 1) := by decide +kernel
theorem dX1_become_165 : decode cX1_become 165 = .ok (.aload_n 0, 1) := by decide +kernel
theorem dX1_become_166 : decode cX1_become 166 = .ok (.getfield 36, 3) := by decide +kernel
theorem dX1_become_169 : decode cX1_become 169 = .ok (.iconst 0, 1) := by decide +kernel
theorem dX1_become_170 : decode cX1_become 170 = .ok (.bipush 8, 2) := by decide +kernel
theorem dX1_become_172 : decode cX1_become 172 = .ok (.invokestatic 67, 3) := by decide +kernel
theorem dX1_become_175 : decode cX1_become 175 = .ok (.aload_n 1, 1) := by decide +kernel
theorem dX1_become_176 : decode cX1_become 176 = .ok (.getfield 39, 3) := by decide +kernel
theorem dX1_become_179 : decode cX1_become 179 = .ok (.iconst 0, 1) := by decide +kernel
theorem dX1_become_180 : decode cX1_become 180 = .ok (.aload_n 0, 1) := by decide +kernel
theorem dX1_become_181 : decode cX1_become 181 = .ok (.getfield 39, 3) := by decide +kernel
theorem dX1_become_184 : decode cX1_become 184 = .ok (.iconst 0, 1) := by decide +kernel
theorem dX1_become_185 : decode cX1_become 185 = .ok (.bipush 8, 2) := by decide +kernel
theorem dX1_become_187 : decode cX1_become 187 = .ok (.invokestatic 67, 3) := by decide +kernel
theorem dX1_become_190 : decode cX1_become 190 = .ok (.aload_n 1, 1) := by decide +kernel
theorem dX1_become_191 : decode cX1_become 191 = .ok (.getfield 42, 3) := by decide +kernel
theorem dX1_become_194 : decode cX1_become 194 = .ok (.iconst 0, 1) := by decide +kernel
theorem dX1_become_195 : decode cX1_become 195 = .ok (.aload_n 0, 1) := by decide +kernel
theorem dX1_become_196 : decode cX1_become 196 = .ok (.getfield 42, 3) := by decide +kernel
theorem dX1_become_199 : decode cX1_become 199 = .ok (.iconst 0, 1) := by decide +kernel
theorem dX1_become_200 : decode cX1_become 200 = .ok (.bipush 8, 2) := by decide +kernel
theorem dX1_become_202 : decode cX1_become 202 = .ok (.invokestatic 67, 3) := by decide +kernel
theorem dX1_become_205 : decode cX1_become 205 = .ok (.return_, 1) := by decide +kernel
theorem dX1_setPassage_0 : decode cX1_setPassage 0 = .ok (.aload_n 0, 1) := by decide +kernel
theorem dX1_setPassage_1 : decode cX1_setPassage 1 = .ok (.getfield 9, 3) := by decide +kernel
theorem dX1_setPassage_4 : decode cX1_setPassage 4 = .ok (.iload_n 1, 1) := by decide +kernel
theorem dX1_setPassage_5 : decode cX1_setPassage 5 = .ok (.iload_n 3, 1) := by decide +kernel
theorem dX1_setPassage_6 : decode cX1_setPassage 6 = .ok (.ifCond .eq 16, 3) := by decide +kernel
theorem dX1_setPassage_9 : decode cX1_setPassage 9 = .ok (.aload_n 0, 1) := by decide +kernel
theorem dX1_setPassage_10 : decode cX1_setPassage 10 = .ok (.getfield 9, 3) := by decide +kernel
theorem dX1_setPassage_13 : decode cX1_setPassage 13 = .ok (.iload_n 1, 1) := by decide +kernel
theorem dX1_setPassage_14 : decode cX1_setPassage 14 = .ok (.iaload, 1) := by decide +kernel
theorem dX1_setPassage_15 : decode cX1_setPassage 15 = .ok (.iconst 1, 1) := by decide +kernel
theorem dX1_setPassage_16 : decode cX1_setPassage 16 = .ok (.iload_n 2, 1) := by decide +kernel
theorem dX1_setPassage_17 : decode cX1_setPassage 17 = .ok (.ishl, 1) := by decide +kernel
theorem dX1_setPassage_18 : decode cX1_setPassage 18 = .ok (.ior, 1) := by decide +kernel
theorem dX1_setPassage_19 : decode cX1_setPassage 19 = .ok (.goto 15, 3) := by decide +kernel
theorem dX1_setPassage_22 : decode cX1_setPassage 22 = .ok (.aload_n 0, 1) := by decide +kernel
theorem dX1_setPassage_23 : decode cX1_setPassage 23 = .ok (.getfield 9, 3) := by decide +kernel
theorem dX1_setPassage_26 : decode cX1_setPassage 26 = .ok (.iload_n 1, 1) := by decide +kernel
theorem dX1_setPassage_27 : decode cX1_setPassage 27 = .ok (.iaload, 1) := by decide +kernel
theorem dX1_setPassage_28 : decode cX1_setPassage 28 = .ok (.iconst 1, 1) := by decide +kernel
theorem dX1_setPassage_29 : decode cX1_setPassage 29 = .ok (.iload_n 2, 1) := by decide +kernel
theorem dX1_setPassage_30 : decode cX1_setPassage 30 = .ok (.ishl, 1) := by decide +kernel
theorem dX1_setPassage_31 : decode cX1_setPassage 31 = .ok (.iconst (-1), 1) := by decide +kernel
theorem dX1_setPassage_32 : decode cX1_setPassage 32 = .ok (.ixor, 1) := by decide +kernel
theorem dX1_setPassage_33 : decode cX1_setPassage 33 = .ok (.iand, 1) := by decide +kernel
theorem dX1_setPassage_34 : decode cX1_setPassage 34 = .ok (.iastore, 1) := by decide +kernel
theorem dX1_setPassage_35 : decode cX1_setPassage 35 = .ok (.aload_n 0, 1) := by decide +kernel
theorem dX1_setPassage_36 : decode cX1_setPassage 36 = .ok (.getfield 9, 3) := by decide +kernel
theorem dX1_setPassage_39 : decode cX1_setPassage 39 = .ok (.iload_n 2, 1) := by decide +kernel
theorem dX1_setPassage_40 : decode cX1_setPassage 40 = .ok (.iload_n 3, 1) := by decide +kernel
theorem dX1_setPassage_41 : decode cX1_setPassage 41 = .ok (.ifCond .eq 16, 3) := by decide +kernel
theorem dX1_setPassage_44 : decode cX1_setPassage 44 = .ok (.aload_n 0, 1) := by decide +kernel
theorem dX1_setPassage_45 : decode cX1_setPassage 45 = .ok (.getfield 9, 3) := by decide +kernel
theorem dX1_setPassage_48 : decode cX1_setPassage 48 = .ok (.iload_n 2, 1) := by decide +kernel
theorem dX1_setPassage_49 : decode cX1_setPassage 49 = .ok (.iaload, 1) := by decide +kernel
theorem dX1_setPassage_50 : decode cX1_setPassage 50 = .ok (.iconst 1, 1) := by decide +kernel
theorem dX1_setPassage_51 : decode cX1_setPassage 51 = .ok (.iload_n 1, 1) := by decide +kernel
theorem dX1_setPassage_52 : decode cX1_setPassage 52 = .ok (.ishl, 1) := by decide +kernel
theorem dX1_setPassage_53 : decode cX1_setPassage 53 = .ok (.ior, 1) := by decide +kernel
theorem dX1_setPassage_54 : decode cX1_setPassage 54 = .ok (.goto 15, 3) := by decide +kernel
theorem dX1_setPassage_57 : decode cX1_setPassage 57 = .ok (.aload_n 0, 1) := by decide +kernel
theorem dX1_setPassage_58 : decode cX1_setPassage 58 = .ok (.getfield 9, 3) := by decide +kernel
theorem dX1_setPassage_61 : decode cX1_setPassage 61 = .ok (.iload_n 2, 1) := by decide +kernel
theorem dX1_setPassage_62 : decode cX1_setPassage 62 = .ok (.iaload, 1) := by decide +kernel
theorem dX1_setPassage_63 : decode cX1_setPassage 63 = .ok (.iconst 1, 1) := by decide +kernel
theorem dX1_setPassage_64 : decode cX1_setPassage 64 = .ok (.iload_n 1, 1) := by decide +kernel
theorem dX1_setPassage_65 : decode cX1_setPassage 65 = .ok (.ishl, 1) := by decide +kernel
theorem dX1_setPassage_66 : decode cX1_setPassage 66 = .ok (.iconst (-1), 1) := by decide +kernel
theorem dX1_setPassage_67 : decode cX1_setPassage 67 = .ok (.ixor, 1) := by decide +kernel
theorem dX1_setPassage_68 : decode cX1_setPassage 68 = .ok (.iand, 1) := by decide +kernel
theorem dX1_setPassage_69 : decode cX1_setPassage 69 = .ok (.iastore, 1) := by decide +kernel
theorem dX1_setPassage_70 : decode cX1_setPassage 70 = .ok (.return_, 1) := by decide +kernel
set_option maxRecDepth 20000 in
theorem ggX1_passageCount_J6_bitCount_0f7a4 : GoodIn wsX1_passageCount wsJ6_bitCount_0f7a4 := goodIn_r _ [5, 6, 7, 8] (by decide +kernel) (by decide +kernel)
set_option maxRecDepth 20000 in
theorem gX1_passageCount_J6_bitCount_0f7a4 : GoodIn wsX1_passageCount (va_wsS RX1 73 yJ6_bitCount_0f7a4 wsJ6_bitCount_0f7a4) := goodIn_app (goodIn_of _ (by decide +kernel)) ggX1_passageCount_J6_bitCount_0f7a4
theorem dX1_passageCount_0 : decode cX1_passageCount 0 = .ok (.iconst 0, 1) := by decide +kernel
theorem dX1_passageCount_1 : decode cX1_passageCount 1 = .ok (.istore_n 1, 1) := by decide +kernel
theorem dX1_passageCount_2 : decode cX1_passageCount 2 = .ok (.iconst 0, 1) := by decide +kernel
theorem dX1_passageCount_3 : decode cX1_passageCount 3 = .ok (.istore_n 2, 1) := by decide +kernel
theorem dX1_passageCount_4 : decode cX1_passageCount 4 = .ok (.iload_n 2, 1) := by decide +kernel
theorem dX1_passageCount_5 : decode cX1_passageCount 5 = .ok (.bipush 10, 2) := by decide +kernel
theorem dX1_passageCount_7 : decode cX1_passageCount 7 = .ok (.if_icmp .ge 21, 3) := by decide +kernel
theorem dX1_passageCount_10 : decode cX1_passageCount 10 = .ok (.iload_n 1, 1) := by decide +kernel
theorem dX1_passageCount_11 : decode cX1_passageCount 11 = .ok (.aload_n 0, 1) := by decide +kernel
theorem dX1_passageCount_12 : decode cX1_passageCount 12 = .ok (.getfield 9, 3) := by decide +kernel
theorem dX1_passageCount_15 : decode cX1_passageCount 15 = .ok (.iload_n 2, 1) := by decide +kernel
theorem dX1_passageCount_16 : decode cX1_passageCount 16 = .ok (.iaload, 1) := by decide +kernel
theorem dX1_passageCount_17 : decode cX1_passageCount 17 = .ok (.invokestatic 73, 3) := by decide +kernel
theorem dX1_passageCount_20 : decode cX1_passageCount 20 = .ok (.iadd, 1) := by decide +kernel
theorem dX1_passageCount_21 : decode cX1_passageCount 21 = .ok (.istore_n 1, 1) := by decide +kernel
theorem dX1_passageCount_22 : decode cX1_passageCount 22 = .ok (.iinc 2 1, 3) := by decide +kernel
theorem dX1_passageCount_25 : decode cX1_passageCount 25 = .ok (.goto (-21), 3) := by decide +kernel
theorem dX1_passageCount_28 : decode cX1_passageCount 28 = .ok (.iload_n 1, 1) := by decide +kernel
theorem dX1_passageCount_29 : decode cX1_passageCount 29 = .ok (.iconst 2, 1) := by decide +kernel
theorem dX1_passageCount_30 : decode cX1_passageCount 30 = .ok (.idiv, 1) := by decide +kernel
theorem dX1_passageCount_31 : decode cX1_passageCount 31 = .ok (.ireturn, 1) := by decide +kernel
theorem dX1_coalInAll_0 : decode cX1_coalInAll 0 = .ok (.iconst 0, 1) := by decide +kernel
theorem dX1_coalInAll_1 : decode cX1_coalInAll 1 = .ok (.istore_n 1, 1) := by decide +kernel
theorem dX1_coalInAll_2 : decode cX1_coalInAll 2 = .ok (.iconst 0, 1) := by decide +kernel
theorem dX1_coalInAll_3 : decode cX1_coalInAll 3 = .ok (.istore_n 2, 1) := by decide +kernel
theorem dX1_coalInAll_4 : decode cX1_coalInAll 4 = .ok (.iload_n 2, 1) := by decide +kernel
theorem dX1_coalInAll_5 : decode cX1_coalInAll 5 = .ok (.bipush 10, 2) := by decide +kernel
theorem dX1_coalInAll_7 : decode cX1_coalInAll 7 = .ok (.if_icmp .ge 18, 3) := by decide +kernel
theorem dX1_coalInAll_10 : decode cX1_coalInAll 10 = .ok (.iload_n 1, 1) := by decide +kernel
theorem dX1_coalInAll_11 : decode cX1_coalInAll 11 = .ok (.aload_n 0, 1) := by decide +kernel
theorem dX1_coalInAll_12 : decode cX1_coalInAll 12 = .ok (.getfield 18, 3) := by decide +kernel
theorem dX1_coalInAll_15 : decode cX1_coalInAll 15 = .ok (.iload_n 2, 1) := by decide +kernel
theorem dX1_coalInAll_16 : decode cX1_coalInAll 16 = .ok (.iaload, 1) := by decide +kernel
theorem dX1_coalInAll_17 : decode cX1_coalInAll 17 = .ok (.iadd, 1) := by decide +kernel
theorem dX1_coalInAll_18 : decode cX1_coalInAll 18 = .ok (.istore_n 1, 1) := by decide +kernel
theorem dX1_coalInAll_19 : decode cX1_coalInAll 19 = .ok (.iinc 2 1, 3) := by decide +kernel
theorem dX1_coalInAll_22 : decode cX1_coalInAll 22 = .ok (.goto (-18), 3) := by decide +kernel
theorem dX1_coalInAll_25 : decode cX1_coalInAll 25 = .ok (.iload_n 1, 1) := by decide +kernel
theorem dX1_coalInAll_26 : decode cX1_coalInAll 26 = .ok (.ireturn, 1) := by decide +kernel
set_option maxRecDepth 20000 in
theorem ggX1_isThere_X7_isVoice : GoodIn wsX1_isThere wsX7_isVoice := goodIn_r _ [4] (by decide +kernel) (by decide +kernel)
set_option maxRecDepth 20000 in
theorem gX1_isThere_X7_isVoice_n79 : GoodIn wsX1_isThere (wsX7_isVoice) := ggX1_isThere_X7_isVoice
set_option maxRecDepth 20000 in
theorem ggX1_isThere_X7_has : GoodIn wsX1_isThere wsX7_has := goodIn_r _ [6] (by decide +kernel) (by decide +kernel)
set_option maxRecDepth 20000 in
theorem gX1_isThere_X7_has_n83 : GoodIn wsX1_isThere (wsX7_has) := ggX1_isThere_X7_has
theorem dX1_isThere_0 : decode cX1_isThere 0 = .ok (.iload_n 1, 1) := by decide +kernel
theorem dX1_isThere_1 : decode cX1_isThere 1 = .ok (.invokestatic 79, 3) := by decide +kernel
theorem dX1_isThere_4 : decode cX1_isThere 4 = .ok (.ifCond .eq 18, 3) := by decide +kernel
theorem dX1_isThere_7 : decode cX1_isThere 7 = .ok (.aload_n 0, 1) := by decide +kernel
theorem dX1_isThere_8 : decode cX1_isThere 8 = .ok (.getfield 58, 3) := by decide +kernel
theorem dX1_isThere_11 : decode cX1_isThere 11 = .ok (.iload_n 1, 1) := by decide +kernel
theorem dX1_isThere_12 : decode cX1_isThere 12 = .ok (.invokestatic 83, 3) := by decide +kernel
theorem dX1_isThere_15 : decode cX1_isThere 15 = .ok (.ifCond .eq 7, 3) := by decide +kernel
theorem dX1_isThere_18 : decode cX1_isThere 18 = .ok (.iconst 1, 1) := by decide +kernel
theorem dX1_isThere_19 : decode cX1_isThere 19 = .ok (.goto 4, 3) := by decide +kernel
theorem dX1_isThere_22 : decode cX1_isThere 22 = .ok (.iconst 0, 1) := by decide +kernel
theorem dX1_isThere_23 : decode cX1_isThere 23 = .ok (.ireturn, 1) := by decide +kernel
theorem dX1_isSinging_0 : decode cX1_isSinging 0 = .ok (.aload_n 0, 1) := by decide +kernel
theorem dX1_isSinging_1 : decode cX1_isSinging 1 = .ok (.getfield 36, 3) := by decide +kernel
theorem dX1_isSinging_4 : decode cX1_isSinging 4 = .ok (.iload_n 1, 1) := by decide +kernel
theorem dX1_isSinging_5 : decode cX1_isSinging 5 = .ok (.iaload, 1) := by decide +kernel
theorem dX1_isSinging_6 : decode cX1_isSinging 6 = .ok (.iconst (-1), 1) := by decide +kernel
theorem dX1_isSinging_7 : decode cX1_isSinging 7 = .ok (.if_icmp .eq 7, 3) := by decide +kernel
theorem dX1_isSinging_10 : decode cX1_isSinging 10 = .ok (.iconst 1, 1) := by decide +kernel
theorem dX1_isSinging_11 : decode cX1_isSinging 11 = .ok (.goto 4, 3) := by decide +kernel
theorem dX1_isSinging_14 : decode cX1_isSinging 14 = .ok (.iconst 0, 1) := by decide +kernel
theorem dX1_isSinging_15 : decode cX1_isSinging 15 = .ok (.ireturn, 1) := by decide +kernel
set_option maxRecDepth 20000 in
theorem ggX1_noteOrNone_X1_isSinging : GoodIn wsX1_noteOrNone wsX1_isSinging := goodIn_r _ [6, 1, 7, 8, 9, 10, 11, 12, 13, 14, 15, 16, 17, 18, 19, 20, 21, 22] (by decide +kernel) (by decide +kernel)
set_option maxRecDepth 20000 in
theorem gX1_noteOrNone_X1_isSinging : GoodIn wsX1_noteOrNone (wsV RX1 87 RX1 yX1_isSinging wsX1_isSinging) := goodIn_app (goodIn_of _ (by decide +kernel)) ggX1_noteOrNone_X1_isSinging
theorem dX1_noteOrNone_0 : decode cX1_noteOrNone 0 = .ok (.aload_n 0, 1) := by decide +kernel
theorem dX1_noteOrNone_1 : decode cX1_noteOrNone 1 = .ok (.iload_n 1, 1) := by decide +kernel
theorem dX1_noteOrNone_2 : decode cX1_noteOrNone 2 = .ok (.invokevirtual 87, 3) := by decide +kernel
theorem dX1_noteOrNone_5 : decode cX1_noteOrNone 5 = .ok (.ifCond .eq 12, 3) := by decide +kernel
theorem dX1_noteOrNone_8 : decode cX1_noteOrNone 8 = .ok (.aload_n 0, 1) := by decide +kernel
theorem dX1_noteOrNone_9 : decode cX1_noteOrNone 9 = .ok (.getfield 36, 3) := by decide +kernel
theorem dX1_noteOrNone_12 : decode cX1_noteOrNone 12 = .ok (.iload_n 1, 1) := by decide +kernel
theorem dX1_noteOrNone_13 : decode cX1_noteOrNone 13 = .ok (.iaload, 1) := by decide +kernel
theorem dX1_noteOrNone_14 : decode cX1_noteOrNone 14 = .ok (.goto 5, 3) := by decide +kernel
theorem dX1_noteOrNone_17 : decode cX1_noteOrNone 17 = .ok (.bipush (-6), 2) := by decide +kernel
theorem dX1_noteOrNone_19 : decode cX1_noteOrNone 19 = .ok (.ireturn, 1) := by decide +kernel
set_option maxRecDepth 20000 in
theorem ggX1_singing_X1_isSinging : GoodIn wsX1_singing wsX1_isSinging := goodIn_r _ [5, 6, 7, 8, 9, 10, 11, 12, 13, 14, 15, 16, 17, 18, 19, 20, 21, 22] (by decide +kernel) (by decide +kernel)
set_option maxRecDepth 20000 in
theorem gX1_singing_X1_isSinging : GoodIn wsX1_singing (wsV RX1 87 RX1 yX1_isSinging wsX1_isSinging) := goodIn_app (goodIn_of _ (by decide +kernel)) ggX1_singing_X1_isSinging
theorem dX1_singing_0 : decode cX1_singing 0 = .ok (.iconst 0, 1) := by decide +kernel
theorem dX1_singing_1 : decode cX1_singing 1 = .ok (.istore_n 1, 1) := by decide +kernel
theorem dX1_singing_2 : decode cX1_singing 2 = .ok (.iconst 0, 1) := by decide +kernel
theorem dX1_singing_3 : decode cX1_singing 3 = .ok (.istore_n 2, 1) := by decide +kernel
theorem dX1_singing_4 : decode cX1_singing 4 = .ok (.iload_n 2, 1) := by decide +kernel
theorem dX1_singing_5 : decode cX1_singing 5 = .ok (.bipush 8, 2) := by decide +kernel
theorem dX1_singing_7 : decode cX1_singing 7 = .ok (.if_icmp .ge 23, 3) := by decide +kernel
theorem dX1_singing_10 : decode cX1_singing 10 = .ok (.aload_n 0, 1) := by decide +kernel
theorem dX1_singing_11 : decode cX1_singing 11 = .ok (.iload_n 2, 1) := by decide +kernel
theorem dX1_singing_12 : decode cX1_singing 12 = .ok (.invokevirtual 87, 3) := by decide +kernel
theorem dX1_singing_15 : decode cX1_singing 15 = .ok (.ifCond .eq 9, 3) := by decide +kernel
theorem dX1_singing_18 : decode cX1_singing 18 = .ok (.iload_n 1, 1) := by decide +kernel
theorem dX1_singing_19 : decode cX1_singing 19 = .ok (.iconst 1, 1) := by decide +kernel
theorem dX1_singing_20 : decode cX1_singing 20 = .ok (.iload_n 2, 1) := by decide +kernel
theorem dX1_singing_21 : decode cX1_singing 21 = .ok (.ishl, 1) := by decide +kernel
theorem dX1_singing_22 : decode cX1_singing 22 = .ok (.ior, 1) := by decide +kernel
theorem dX1_singing_23 : decode cX1_singing 23 = .ok (.istore_n 1, 1) := by decide +kernel
theorem dX1_singing_24 : decode cX1_singing 24 = .ok (.iinc 2 1, 3) := by decide +kernel
theorem dX1_singing_27 : decode cX1_singing 27 = .ok (.goto (-23), 3) := by decide +kernel
theorem dX1_singing_30 : decode cX1_singing 30 = .ok (.iload_n 1, 1) := by decide +kernel
theorem dX1_singing_31 : decode cX1_singing 31 = .ok (.ireturn, 1) := by decide +kernel
set_option maxRecDepth 20000 in
theorem ggX1_singersIn_X1_isSinging : GoodIn wsX1_singersIn wsX1_isSinging := goodIn_r _ [6, 7, 8, 9, 10, 11, 12, 13, 14, 15, 16, 17, 18, 19, 20, 21, 22, 23] (by decide +kernel) (by decide +kernel)
set_option maxRecDepth 20000 in
theorem gX1_singersIn_X1_isSinging : GoodIn wsX1_singersIn (wsV RX1 87 RX1 yX1_isSinging wsX1_isSinging) := goodIn_app (goodIn_of _ (by decide +kernel)) ggX1_singersIn_X1_isSinging
theorem dX1_singersIn_0 : decode cX1_singersIn 0 = .ok (.iconst 0, 1) := by decide +kernel
theorem dX1_singersIn_1 : decode cX1_singersIn 1 = .ok (.istore_n 2, 1) := by decide +kernel
theorem dX1_singersIn_2 : decode cX1_singersIn 2 = .ok (.iconst 0, 1) := by decide +kernel
theorem dX1_singersIn_3 : decode cX1_singersIn 3 = .ok (.istore_n 3, 1) := by decide +kernel
theorem dX1_singersIn_4 : decode cX1_singersIn 4 = .ok (.iload_n 3, 1) := by decide +kernel
theorem dX1_singersIn_5 : decode cX1_singersIn 5 = .ok (.bipush 8, 2) := by decide +kernel
theorem dX1_singersIn_7 : decode cX1_singersIn 7 = .ok (.if_icmp .ge 30, 3) := by decide +kernel
theorem dX1_singersIn_10 : decode cX1_singersIn 10 = .ok (.aload_n 0, 1) := by decide +kernel
theorem dX1_singersIn_11 : decode cX1_singersIn 11 = .ok (.iload_n 3, 1) := by decide +kernel
theorem dX1_singersIn_12 : decode cX1_singersIn 12 = .ok (.invokevirtual 87, 3) := by decide +kernel
theorem dX1_singersIn_15 : decode cX1_singersIn 15 = .ok (.ifCond .eq 16, 3) := by decide +kernel
theorem dX1_singersIn_18 : decode cX1_singersIn 18 = .ok (.aload_n 0, 1) := by decide +kernel
theorem dX1_singersIn_19 : decode cX1_singersIn 19 = .ok (.getfield 33, 3) := by decide +kernel
theorem dX1_singersIn_22 : decode cX1_singersIn 22 = .ok (.iload_n 3, 1) := by decide +kernel
theorem dX1_singersIn_23 : decode cX1_singersIn 23 = .ok (.iaload, 1) := by decide +kernel
theorem dX1_singersIn_24 : decode cX1_singersIn 24 = .ok (.iload_n 1, 1) := by decide +kernel
theorem dX1_singersIn_25 : decode cX1_singersIn 25 = .ok (.if_icmp .ne 6, 3) := by decide +kernel
theorem dX1_singersIn_28 : decode cX1_singersIn 28 = .ok (.iinc 2 1, 3) := by decide +kernel
theorem dX1_singersIn_31 : decode cX1_singersIn 31 = .ok (.iinc 3 1, 3) := by decide +kernel
theorem dX1_singersIn_34 : decode cX1_singersIn 34 = .ok (.goto (-30), 3) := by decide +kernel
theorem dX1_singersIn_37 : decode cX1_singersIn 37 = .ok (.iload_n 2, 1) := by decide +kernel
theorem dX1_singersIn_38 : decode cX1_singersIn 38 = .ok (.ireturn, 1) := by decide +kernel
theorem dX1_singTogether_0 : decode cX1_singTogether 0 = .ok (.aload_n 0, 1) := by decide +kernel
theorem dX1_singTogether_1 : decode cX1_singTogether 1 = .ok (.getfield 36, 3) := by decide +kernel
theorem dX1_singTogether_4 : decode cX1_singTogether 4 = .ok (.iload_n 1, 1) := by decide +kernel
theorem dX1_singTogether_5 : decode cX1_singTogether 5 = .ok (.iaload, 1) := by decide +kernel
theorem dX1_singTogether_6 : decode cX1_singTogether 6 = .ok (.iconst (-1), 1) := by decide +kernel
theorem dX1_singTogether_7 : decode cX1_singTogether 7 = .ok (.if_icmp .eq 32, 3) := by decide +kernel
theorem dX1_singTogether_10 : decode cX1_singTogether 10 = .ok (.aload_n 0, 1) := by decide +kernel
theorem dX1_singTogether_11 : decode cX1_singTogether 11 = .ok (.getfield 36, 3) := by decide +kernel
theorem dX1_singTogether_14 : decode cX1_singTogether 14 = .ok (.iload_n 2, 1) := by decide +kernel
theorem dX1_singTogether_15 : decode cX1_singTogether 15 = .ok (.iaload, 1) := by decide +kernel
theorem dX1_singTogether_16 : decode cX1_singTogether 16 = .ok (.iconst (-1), 1) := by decide +kernel
theorem dX1_singTogether_17 : decode cX1_singTogether 17 = .ok (.if_icmp .eq 22, 3) := by decide +kernel
theorem dX1_singTogether_20 : decode cX1_singTogether 20 = .ok (.aload_n 0, 1) := by decide +kernel
theorem dX1_singTogether_21 : decode cX1_singTogether 21 = .ok (.getfield 33, 3) := by decide +kernel
theorem dX1_singTogether_24 : decode cX1_singTogether 24 = .ok (.iload_n 1, 1) := by decide +kernel
theorem dX1_singTogether_25 : decode cX1_singTogether 25 = .ok (.iaload, 1) := by decide +kernel
theorem dX1_singTogether_26 : decode cX1_singTogether 26 = .ok (.aload_n 0, 1) := by decide +kernel
theorem dX1_singTogether_27 : decode cX1_singTogether 27 = .ok (.getfield 33, 3) := by decide +kernel
theorem dX1_singTogether_30 : decode cX1_singTogether 30 = .ok (.iload_n 2, 1) := by decide +kernel
theorem dX1_singTogether_31 : decode cX1_singTogether 31 = .ok (.iaload, 1) := by decide +kernel
theorem dX1_singTogether_32 : decode cX1_singTogether 32 = .ok (.if_icmp .ne 7, 3) := by decide +kernel
theorem dX1_singTogether_35 : decode cX1_singTogether 35 = .ok (.iconst 1, 1) := by decide +kernel
theorem dX1_singTogether_36 : decode cX1_singTogether 36 = .ok (.goto 4, 3) := by decide +kernel
theorem dX1_singTogether_39 : decode cX1_singTogether 39 = .ok (.iconst 0, 1) := by decide +kernel
theorem dX1_singTogether_40 : decode cX1_singTogether 40 = .ok (.ireturn, 1) := by decide +kernel
set_option maxRecDepth 20000 in
theorem ggX1_clash_X7_has : GoodIn wsX1_clash wsX7_has := goodIn_r _ [10] (by decide +kernel) (by decide +kernel)
set_option maxRecDepth 20000 in
theorem gX1_clash_X7_has_n83 : GoodIn wsX1_clash (wsX7_has) := ggX1_clash_X7_has
set_option maxRecDepth 20000 in
theorem ggX1_clash_X1_singTogether : GoodIn wsX1_clash wsX1_singTogether := goodIn_r _ [15, 3, 2, 16, 17, 18, 19, 20, 21, 22, 23, 24, 25, 26, 27, 28, 29, 30, 31] (by decide +kernel) (by decide +kernel)
set_option maxRecDepth 20000 in
theorem gX1_clash_X1_singTogether : GoodIn wsX1_clash (wsV RX1 90 RX1 yX1_singTogether wsX1_singTogether) := goodIn_app (goodIn_of _ (by decide +kernel)) ggX1_clash_X1_singTogether
theorem dX1_clash_0 : decode cX1_clash 0 = .ok (.aload_n 0, 1) := by decide +kernel
theorem dX1_clash_1 : decode cX1_clash 1 = .ok (.getfield 51, 3) := by decide +kernel
theorem dX1_clash_4 : decode cX1_clash 4 = .ok (.aload_n 0, 1) := by decide +kernel
theorem dX1_clash_5 : decode cX1_clash 5 = .ok (.getfield 33, 3) := by decide +kernel
theorem dX1_clash_8 : decode cX1_clash 8 = .ok (.iload_n 1, 1) := by decide +kernel
theorem dX1_clash_9 : decode cX1_clash 9 = .ok (.iaload, 1) := by decide +kernel
theorem dX1_clash_10 : decode cX1_clash 10 = .ok (.invokestatic 83, 3) := by decide +kernel
theorem dX1_clash_13 : decode cX1_clash 13 = .ok (.ifCond .eq 12, 3) := by decide +kernel
theorem dX1_clash_16 : decode cX1_clash 16 = .ok (.aload_n 0, 1) := by decide +kernel
theorem dX1_clash_17 : decode cX1_clash 17 = .ok (.iload_n 1, 1) := by decide +kernel
theorem dX1_clash_18 : decode cX1_clash 18 = .ok (.iload_n 2, 1) := by decide +kernel
theorem dX1_clash_19 : decode cX1_clash 19 = .ok (.invokevirtual 90, 3) := by decide +kernel
theorem dX1_clash_22 : decode cX1_clash 22 = .ok (.ifCond .ne 5, 3) := by decide +kernel
theorem dX1_clash_25 : decode cX1_clash 25 = .ok (.iconst 0, 1) := by decide +kernel
theorem dX1_clash_26 : decode cX1_clash 26 = .ok (.ireturn, 1) := by decide +kernel
theorem dX1_clash_27 : decode cX1_clash 27 = .ok (.aload_n 0, 1) := by decide +kernel
theorem dX1_clash_28 : decode cX1_clash 28 = .ok (.getfield 36, 3) := by decide +kernel
theorem dX1_clash_31 : decode cX1_clash 31 = .ok (.iload_n 1, 1) := by decide +kernel
theorem dX1_clash_32 : decode cX1_clash 32 = .ok (.iaload, 1) := by decide +kernel
theorem dX1_clash_33 : decode cX1_clash 33 = .ok (.aload_n 0, 1) := by decide +kernel
theorem dX1_clash_34 : decode cX1_clash 34 = .ok (.getfield 36, 3) := by decide +kernel
theorem dX1_clash_37 : decode cX1_clash 37 = .ok (.iload_n 2, 1) := by decide +kernel
theorem dX1_clash_38 : decode cX1_clash 38 = .ok (.iaload, 1) := by decide +kernel
theorem dX1_clash_39 : decode cX1_clash 39 = .ok (.isub, 1) := by decide +kernel
theorem dX1_clash_40 : decode cX1_clash 40 = .ok (.invokestatic 93, 3) := by decide +kernel
theorem dX1_clash_43 : decode cX1_clash 43 = .ok (.istore_n 3, 1) := by decide +kernel
theorem dX1_clash_44 : decode cX1_clash 44 = .ok (.iload_n 3, 1) := by decide +kernel
theorem dX1_clash_45 : decode cX1_clash 45 = .ok (.iconst 3, 1) := by decide +kernel
theorem dX1_clash_46 : decode cX1_clash 46 = .ok (.if_icmp .eq 8, 3) := by decide +kernel
theorem dX1_clash_49 : decode cX1_clash 49 = .ok (.iload_n 3, 1) := by decide +kernel
theorem dX1_clash_50 : decode cX1_clash 50 = .ok (.iconst 4, 1) := by decide +kernel
theorem dX1_clash_51 : decode cX1_clash 51 = .ok (.if_icmp .ne 7, 3) := by decide +kernel
theorem dX1_clash_54 : decode cX1_clash 54 = .ok (.iconst 1, 1) := by decide +kernel
theorem dX1_clash_55 : decode cX1_clash 55 = .ok (.goto 4, 3) := by decide +kernel
theorem dX1_clash_58 : decode cX1_clash 58 = .ok (.iconst 0, 1) := by decide +kernel
theorem dX1_clash_59 : decode cX1_clash 59 = .ok (.ireturn, 1) := by decide +kernel
set_option maxRecDepth 20000 in
theorem ggX1_isTakenOut_X7_has : GoodIn wsX1_isTakenOut wsX7_has := goodIn_r _ [5] (by decide +kernel) (by decide +kernel)
set_option maxRecDepth 20000 in
theorem gX1_isTakenOut_X7_has_n83 : GoodIn wsX1_isTakenOut (wsX7_has) := ggX1_isTakenOut_X7_has
set_option maxRecDepth 20000 in
theorem ggX1_isTakenOut_X1_clash : GoodIn wsX1_isTakenOut wsX1_clash := goodIn_r _ [10, 1, 2, 11, 12, 13, 14, 15, 3, 4, 5, 16, 17, 18, 9, 19, 20, 21, 22, 23, 24, 25, 26, 27, 28, 29, 30, 31, 32, 33, 34, 35] (by decide +kernel) (by decide +kernel)
set_option maxRecDepth 20000 in
theorem gX1_isTakenOut_X1_clash : GoodIn wsX1_isTakenOut (wsV RX1 98 RX1 yX1_clash wsX1_clash) := goodIn_app (goodIn_of _ (by decide +kernel)) ggX1_isTakenOut_X1_clash
theorem dX1_isTakenOut_0 : decode cX1_isTakenOut 0 = .ok (.aload_n 0, 1) := by decide +kernel
theorem dX1_isTakenOut_1 : decode cX1_isTakenOut 1 = .ok (.getfield 51, 3) := by decide +kernel
theorem dX1_isTakenOut_4 : decode cX1_isTakenOut 4 = .ok (.aload_n 0, 1) := by decide +kernel
theorem dX1_isTakenOut_5 : decode cX1_isTakenOut 5 = .ok (.getfield 33, 3) := by decide +kernel
theorem dX1_isTakenOut_8 : decode cX1_isTakenOut 8 = .ok (.iload_n 1, 1) := by decide +kernel
theorem dX1_isTakenOut_9 : decode cX1_isTakenOut 9 = .ok (.iaload, 1) := by decide +kernel
theorem dX1_isTakenOut_10 : decode cX1_isTakenOut 10 = .ok (.invokestatic 83, 3) := by decide +kernel
theorem dX1_isTakenOut_13 : decode cX1_isTakenOut 13 = .ok (.ifCond .ne 5, 3) := by decide +kernel
theorem dX1_isTakenOut_16 : decode cX1_isTakenOut 16 = .ok (.iconst 0, 1) := by decide +kernel
theorem dX1_isTakenOut_17 : decode cX1_isTakenOut 17 = .ok (.ireturn, 1) := by decide +kernel
theorem dX1_isTakenOut_18 : decode cX1_isTakenOut 18 = .ok (.iconst 0, 1) := by decide +kernel
theorem dX1_isTakenOut_19 : decode cX1_isTakenOut 19 = .ok (.istore_n 2, 1) := by decide +kernel
theorem dX1_isTakenOut_20 : decode cX1_isTakenOut 20 = .ok (.iload_n 2, 1) := by decide +kernel
theorem dX1_isTakenOut_21 : decode cX1_isTakenOut 21 = .ok (.bipush 8, 2) := by decide +kernel
theorem dX1_isTakenOut_23 : decode cX1_isTakenOut 23 = .ok (.if_icmp .ge 20, 3) := by decide +kernel
theorem dX1_isTakenOut_26 : decode cX1_isTakenOut 26 = .ok (.aload_n 0, 1) := by decide +kernel
theorem dX1_isTakenOut_27 : decode cX1_isTakenOut 27 = .ok (.iload_n 1, 1) := by decide +kernel
theorem dX1_isTakenOut_28 : decode cX1_isTakenOut 28 = .ok (.iload_n 2, 1) := by decide +kernel
theorem dX1_isTakenOut_29 : decode cX1_isTakenOut 29 = .ok (.invokevirtual 98, 3) := by decide +kernel
theorem dX1_isTakenOut_32 : decode cX1_isTakenOut 32 = .ok (.ifCond .eq 5, 3) := by decide +kernel
theorem dX1_isTakenOut_35 : decode cX1_isTakenOut 35 = .ok (.iconst 1, 1) := by decide +kernel
theorem dX1_isTakenOut_36 : decode cX1_isTakenOut 36 = .ok (.ireturn, 1) := by decide +kernel
theorem dX1_isTakenOut_37 : decode cX1_isTakenOut 37 = .ok (.iinc 2 1, 3) := by decide +kernel
theorem dX1_isTakenOut_40 : decode cX1_isTakenOut 40 = .ok (.goto (-20), 3) := by decide +kernel
theorem dX1_isTakenOut_43 : decode cX1_isTakenOut 43 = .ok (.iconst 0, 1) := by decide +kernel
theorem dX1_isTakenOut_44 : decode cX1_isTakenOut 44 = .ok (.ireturn, 1) := by decide +kernel
theorem dX2_init_0 : decode cX2_init 0 = .ok (.aload_n 0, 1) := by decide +kernel
theorem dX2_init_1 : decode cX2_init 1 = .ok (.invokespecial 3, 3) := by decide +kernel
theorem dX2_init_4 : decode cX2_init 4 = .ok (.aload_n 0, 1) := by decide +kernel
theorem dX2_init_5 : decode cX2_init 5 = .ok (.bipush 60, 2) := by decide +kernel
theorem dX2_init_7 : decode cX2_init 7 = .ok (.newarray .int, 2) := by decide +kernel
theorem dX2_init_9 : decode cX2_init 9 = .ok (.putfield 9, 3) := by decide +kernel
theorem dX2_init_12 : decode cX2_init 12 = .ok (.aload_n 0, 1) := by decide +kernel
theorem dX2_init_13 : decode cX2_init 13 = .ok (.bipush 60, 2) := by decide +kernel
theorem dX2_init_15 : decode cX2_init 15 = .ok (.newarray .int, 2) := by decide +kernel
theorem dX2_init_17 : decode cX2_init 17 = .ok (.putfield 15, 3) := by decide +kernel
theorem dX2_init_20 : decode cX2_init 20 = .ok (.aload_n 0, 1) := by decide +kernel
theorem dX2_init_21 : decode cX2_init 21 = .ok (.bipush 60, 2) := by decide +kernel
theorem dX2_init_23 : decode cX2_init 23 = .ok (.newarray .int, 2) := by decide +kernel
theorem dX2_init_25 : decode cX2_init 25 = .ok (.putfield 18, 3) := by decide +kernel
theorem dX2_init_28 : decode cX2_init 28 = .ok (.aload_n 0, 1) := by decide +kernel
theorem dX2_init_29 : decode cX2_init 29 = .ok (.bipush 60, 2) := by decide +kernel
theorem dX2_init_31 : decode cX2_init 31 = .ok (.newarray .int, 2) := by decide +kernel
theorem dX2_init_33 : decode cX2_init 33 = .ok (.putfield 21, 3) := by decide +kernel
theorem dX2_init_36 : decode cX2_init 36 = .ok (.return_, 1) := by decide +kernel
set_option maxRecDepth 20000 in
theorem ggX2_readActs_X2_readAct : GoodIn wsX2_readActs wsX2_readAct := goodIn_r _ [8, 2, 9, 10, 11, 7, 12, 3, 13, 14, 15, 16, 17, 1, 18, 19, 20, 21, 22, 23, 24, 25, 26, 27, 28, 29, 30, 31, 32, 33, 34, 35] (by decide +kernel) (by decide +kernel)
set_option maxRecDepth 20000 in
theorem gX2_readActs_X2_readAct : GoodIn wsX2_readActs (wsV RX2 34 RX2 yX2_readAct wsX2_readAct) := goodIn_app (goodIn_of _ (by decide +kernel)) ggX2_readActs_X2_readAct
theorem dX2_readActs_0 : decode cX2_readActs 0 = .ok (.aload_n 0, 1) := by decide +kernel
theorem dX2_readActs_1 : decode cX2_readActs 1 = .ok (.iconst 0, 1) := by decide +kernel
theorem dX2_readActs_2 : decode cX2_readActs 2 = .ok (.putfield 24, 3) := by decide +kernel
theorem dX2_readActs_5 : decode cX2_readActs 5 = .ok (.aload_n 0, 1) := by decide +kernel
theorem dX2_readActs_6 : decode cX2_readActs 6 = .ok (.iconst 0, 1) := by decide +kernel
theorem dX2_readActs_7 : decode cX2_readActs 7 = .ok (.putfield 28, 3) := by decide +kernel
theorem dX2_readActs_10 : decode cX2_readActs 10 = .ok (.iconst 0, 1) := by decide +kernel
theorem dX2_readActs_11 : decode cX2_readActs 11 = .ok (.istore_n 1, 1) := by decide +kernel
theorem dX2_readActs_12 : decode cX2_readActs 12 = .ok (.iload_n 1, 1) := by decide +kernel
theorem dX2_readActs_13 : decode cX2_readActs 13 = .ok (.bipush 60, 2) := by decide +kernel
theorem dX2_readActs_15 : decode cX2_readActs 15 = .ok (.if_icmp .ge 32, 3) := by decide +kernel
theorem dX2_readActs_18 : decode cX2_readActs 18 = .ok (.aload_n 0, 1) := by decide +kernel
theorem dX2_readActs_19 : decode cX2_readActs 19 = .ok (.getfield 28, 3) := by decide +kernel
theorem dX2_readActs_22 : decode cX2_readActs 22 = .ok (.aload_n 0, 1) := by decide +kernel
theorem dX2_readActs_23 : decode cX2_readActs 23 = .ok (.getfield 31, 3) := by decide +kernel
theorem dX2_readActs_26 : decode cX2_readActs 26 = .ok (.if_icmp .ge 21, 3) := by decide +kernel
theorem dX2_readActs_29 : decode cX2_readActs 29 = .ok (.aload_n 0, 1) := by decide +kernel
theorem dX2_readActs_30 : decode cX2_readActs 30 = .ok (.invokevirtual 34, 3) := by decide +kernel
theorem dX2_readActs_33 : decode cX2_readActs 33 = .ok (.ifCond .ne 8, 3) := by decide +kernel
theorem dX2_readActs_36 : decode cX2_readActs 36 = .ok (.aload_n 0, 1) := by decide +kernel
theorem dX2_readActs_37 : decode cX2_readActs 37 = .ok (.getfield 28, 3) := by decide +kernel
theorem dX2_readActs_40 : decode cX2_readActs 40 = .ok (.ireturn, 1) := by decide +kernel
theorem dX2_readActs_41 : decode cX2_readActs 41 = .ok (.iinc 1 1, 3) := by decide +kernel
theorem dX2_readActs_44 : decode cX2_readActs 44 = .ok (.goto (-32), 3) := by decide +kernel
theorem dX2_readActs_47 : decode cX2_readActs 47 = .ok (.bipush (-6), 2) := by decide +kernel
theorem dX2_readActs_49 : decode cX2_readActs 49 = .ok (.ireturn, 1) := by decide +kernel
set_option maxRecDepth 20000 in
theorem ggX2_readAct_X2_signAt : GoodIn wsX2_readAct wsX2_signAt := goodIn_r _ [6, 7, 8, 25, 26, 27, 28, 29, 30, 31] (by decide +kernel) (by decide +kernel)
set_option maxRecDepth 20000 in
theorem gX2_readAct_X2_signAt : GoodIn wsX2_readAct (wsV RX2 38 RX2 yX2_signAt wsX2_signAt) := goodIn_app (goodIn_of _ (by decide +kernel)) ggX2_readAct_X2_signAt
set_option maxRecDepth 20000 in
theorem ggX2_readAct_X2_addAct : GoodIn wsX2_readAct wsX2_addAct := goodIn_r _ [12, 13, 14, 15, 16, 25, 26, 27, 28, 29, 30, 31] (by decide +kernel) (by decide +kernel)
set_option maxRecDepth 20000 in
theorem gX2_readAct_X2_addAct : GoodIn wsX2_readAct (wsV RX2 42 RX2 yX2_addAct wsX2_addAct) := goodIn_app (goodIn_of _ (by decide +kernel)) ggX2_readAct_X2_addAct
set_option maxRecDepth 20000 in
theorem ggX2_readAct_X2_readGallery : GoodIn wsX2_readAct wsX2_readGallery := goodIn_r _ [20, 1, 2, 3, 4, 5, 6, 7, 8, 9, 10, 11, 12, 13, 14, 15, 16, 25, 26, 27, 28, 29, 30, 31] (by decide +kernel) (by decide +kernel)
set_option maxRecDepth 20000 in
theorem gX2_readAct_X2_readGallery : GoodIn wsX2_readAct (wsV RX2 46 RX2 yX2_readGallery wsX2_readGallery) := goodIn_app (goodIn_of _ (by decide +kernel)) ggX2_readAct_X2_readGallery
set_option maxRecDepth 20000 in
theorem ggX2_readAct_X2_readDeed : GoodIn wsX2_readAct wsX2_readDeed := goodIn_r _ [24, 1, 2, 3, 4, 5, 6, 7, 8, 9, 10, 11, 12, 13, 14, 15, 16, 17, 18, 19, 20, 25, 26, 27, 28, 29, 30, 31] (by decide +kernel) (by decide +kernel)
set_option maxRecDepth 20000 in
theorem gX2_readAct_X2_readDeed : GoodIn wsX2_readAct (wsV RX2 50 RX2 yX2_readDeed wsX2_readDeed) := goodIn_app (goodIn_of _ (by decide +kernel)) ggX2_readAct_X2_readDeed
theorem dX2_readAct_0 : decode cX2_readAct 0 = .ok (.aload_n 0, 1) := by decide +kernel
theorem dX2_readAct_1 : decode cX2_readAct 1 = .ok (.aload_n 0, 1) := by decide +kernel
theorem dX2_readAct_2 : decode cX2_readAct 2 = .ok (.getfield 28, 3) := by decide +kernel
theorem dX2_readAct_5 : decode cX2_readAct 5 = .ok (.invokevirtual 38, 3) := by decide +kernel
theorem dX2_readAct_8 : decode cX2_readAct 8 = .ok (.istore_n 1, 1) := by decide +kernel
theorem dX2_readAct_9 : decode cX2_readAct 9 = .ok (.iload_n 1, 1) := by decide +kernel
theorem dX2_readAct_10 : decode cX2_readAct 10 = .ok (.bipush 46, 2) := by decide +kernel
theorem dX2_readAct_12 : decode cX2_readAct 12 = .ok (.if_icmp .ne 21, 3) := by decide +kernel
theorem dX2_readAct_15 : decode cX2_readAct 15 = .ok (.aload_n 0, 1) := by decide +kernel
theorem dX2_readAct_16 : decode cX2_readAct 16 = .ok (.dup, 1) := by decide +kernel
theorem dX2_readAct_17 : decode cX2_readAct 17 = .ok (.getfield 28, 3) := by decide +kernel
theorem dX2_readAct_20 : decode cX2_readAct 20 = .ok (.iconst 1, 1) := by decide +kernel
theorem dX2_readAct_21 : decode cX2_readAct 21 = .ok (.iadd, 1) := by decide +kernel
theorem dX2_readAct_22 : decode cX2_readAct 22 = .ok (.putfield 28, 3) := by decide +kernel
theorem dX2_readAct_25 : decode cX2_readAct 25 = .ok (.aload_n 0, 1) := by decide +kernel
theorem dX2_readAct_26 : decode cX2_readAct 26 = .ok (.iconst 4, 1) := by decide +kernel
theorem dX2_readAct_27 : decode cX2_readAct 27 = .ok (.iconst 0, 1) := by decide +kernel
theorem dX2_readAct_28 : decode cX2_readAct 28 = .ok (.iconst 0, 1) := by decide +kernel
theorem dX2_readAct_29 : decode cX2_readAct 29 = .ok (.invokevirtual 42, 3) := by decide +kernel
theorem dX2_readAct_32 : decode cX2_readAct 32 = .ok (.ireturn, 1) := by decide +kernel
theorem dX2_readAct_33 : decode cX2_readAct 33 = .ok (.iload_n 1, 1) := by decide +kernel
theorem dX2_readAct_34 : decode cX2_readAct 34 = .ok (.bipush 42, 2) := by decide +kernel
theorem dX2_readAct_36 : decode cX2_readAct 36 = .ok (.if_icmp .ne 20, 3) := by decide +kernel
theorem dX2_readAct_39 : decode cX2_readAct 39 = .ok (.aload_n 0, 1) := by decide +kernel
theorem dX2_readAct_40 : decode cX2_readAct 40 = .ok (.dup, 1) := by decide +kernel
theorem dX2_readAct_41 : decode cX2_readAct 41 = .ok (.getfield 28, 3) := by decide +kernel
theorem dX2_readAct_44 : decode cX2_readAct 44 = .ok (.iconst 1, 1) := by decide +kernel
theorem dX2_readAct_45 : decode cX2_readAct 45 = .ok (.iadd, 1) := by decide +kernel
theorem dX2_readAct_46 : decode cX2_readAct 46 = .ok (.putfield 28, 3) := by decide +kernel
theorem dX2_readAct_49 : decode cX2_readAct 49 = .ok (.aload_n 0, 1) := by decide +kernel
theorem dX2_readAct_50 : decode cX2_readAct 50 = .ok (.iconst 3, 1) := by decide +kernel
theorem dX2_readAct_51 : decode cX2_readAct 51 = .ok (.iconst 0, 1) := by decide +kernel
theorem dX2_readAct_52 : decode cX2_readAct 52 = .ok (.invokevirtual 46, 3) := by decide +kernel
theorem dX2_readAct_55 : decode cX2_readAct 55 = .ok (.ireturn, 1) := by decide +kernel
theorem dX2_readAct_56 : decode cX2_readAct 56 = .ok (.iload_n 1, 1) := by decide +kernel
theorem dX2_readAct_57 : decode cX2_readAct 57 = .ok (.bipush 65, 2) := by decide +kernel
theorem dX2_readAct_59 : decode cX2_readAct 59 = .ok (.if_icmp .lt 9, 3) := by decide +kernel
theorem dX2_readAct_62 : decode cX2_readAct 62 = .ok (.iload_n 1, 1) := by decide +kernel
theorem dX2_readAct_63 : decode cX2_readAct 63 = .ok (.bipush 73, 2) := by decide +kernel
theorem dX2_readAct_65 : decode cX2_readAct 65 = .ok (.if_icmp .lt 5, 3) := by decide +kernel
theorem dX2_readAct_68 : decode cX2_readAct 68 = .ok (.iconst 0, 1) := by decide +kernel
theorem dX2_readAct_69 : decode cX2_readAct 69 = .ok (.ireturn, 1) := by decide +kernel
theorem dX2_readAct_70 : decode cX2_readAct 70 = .ok (.aload_n 0, 1) := by decide +kernel
theorem dX2_readAct_71 : decode cX2_readAct 71 = .ok (.dup, 1) := by decide +kernel
theorem dX2_readAct_72 : decode cX2_readAct 72 = .ok (.getfield 28, 3) := by decide +kernel
theorem dX2_readAct_75 : decode cX2_readAct 75 = .ok (.iconst 1, 1) := by decide +kernel
theorem dX2_readAct_76 : decode cX2_readAct 76 = .ok (.iadd, 1) := by decide +kernel
theorem dX2_readAct_77 : decode cX2_readAct 77 = .ok (.putfield 28, 3) := by decide +kernel
theorem dX2_readAct_80 : decode cX2_readAct 80 = .ok (.aload_n 0, 1) := by decide +kernel
theorem dX2_readAct_81 : decode cX2_readAct 81 = .ok (.iload_n 1, 1) := by decide +kernel
theorem dX2_readAct_82 : decode cX2_readAct 82 = .ok (.bipush 65, 2) := by decide +kernel
theorem dX2_readAct_84 : decode cX2_readAct 84 = .ok (.isub, 1) := by decide +kernel
theorem dX2_readAct_85 : decode cX2_readAct 85 = .ok (.invokevirtual 50, 3) := by decide +kernel
theorem dX2_readAct_88 : decode cX2_readAct 88 = .ok (.ireturn, 1) := by decide +kernel
set_option maxRecDepth 20000 in
theorem ggX2_readDeed_X2_signAt : GoodIn wsX2_readDeed wsX2_signAt := goodIn_r _ [6, 7, 8, 21, 22, 23, 24, 25, 26, 27] (by decide +kernel) (by decide +kernel)
set_option maxRecDepth 20000 in
theorem gX2_readDeed_X2_signAt : GoodIn wsX2_readDeed (wsV RX2 38 RX2 yX2_signAt wsX2_signAt) := goodIn_app (goodIn_of _ (by decide +kernel)) ggX2_readDeed_X2_signAt
set_option maxRecDepth 20000 in
theorem ggX2_readDeed_X2_addAct : GoodIn wsX2_readDeed wsX2_addAct := goodIn_r _ [12, 13, 14, 15, 16, 21, 22, 23, 24, 25, 26, 27] (by decide +kernel) (by decide +kernel)
set_option maxRecDepth 20000 in
theorem gX2_readDeed_X2_addAct : GoodIn wsX2_readDeed (wsV RX2 42 RX2 yX2_addAct wsX2_addAct) := goodIn_app (goodIn_of _ (by decide +kernel)) ggX2_readDeed_X2_addAct
set_option maxRecDepth 20000 in
theorem ggX2_readDeed_X2_readGallery : GoodIn wsX2_readDeed wsX2_readGallery := goodIn_r _ [20, 1, 2, 3, 4, 5, 6, 7, 8, 9, 10, 11, 12, 13, 14, 15, 16, 21, 22, 23, 24, 25, 26, 27] (by decide +kernel) (by decide +kernel)
set_option maxRecDepth 20000 in
theorem gX2_readDeed_X2_readGallery : GoodIn wsX2_readDeed (wsV RX2 46 RX2 yX2_readGallery wsX2_readGallery) := goodIn_app (goodIn_of _ (by decide +kernel)) ggX2_readDeed_X2_readGallery
theorem dX2_readDeed_0 : decode cX2_readDeed 0 = .ok (.aload_n 0, 1) := by decide +kernel
theorem dX2_readDeed_1 : decode cX2_readDeed 1 = .ok (.aload_n 0, 1) := by decide +kernel
theorem dX2_readDeed_2 : decode cX2_readDeed 2 = .ok (.getfield 28, 3) := by decide +kernel
theorem dX2_readDeed_5 : decode cX2_readDeed 5 = .ok (.invokevirtual 38, 3) := by decide +kernel
theorem dX2_readDeed_8 : decode cX2_readDeed 8 = .ok (.istore_n 2, 1) := by decide +kernel
theorem dX2_readDeed_9 : decode cX2_readDeed 9 = .ok (.iload_n 2, 1) := by decide +kernel
theorem dX2_readDeed_10 : decode cX2_readDeed 10 = .ok (.bipush 97, 2) := by decide +kernel
theorem dX2_readDeed_12 : decode cX2_readDeed 12 = .ok (.if_icmp .lt 30, 3) := by decide +kernel
theorem dX2_readDeed_15 : decode cX2_readDeed 15 = .ok (.iload_n 2, 1) := by decide +kernel
theorem dX2_readDeed_16 : decode cX2_readDeed 16 = .ok (.bipush 121, 2) := by decide +kernel
theorem dX2_readDeed_18 : decode cX2_readDeed 18 = .ok (.if_icmp .ge 24, 3) := by decide +kernel
theorem dX2_readDeed_21 : decode cX2_readDeed 21 = .ok (.aload_n 0, 1) := by decide +kernel
theorem dX2_readDeed_22 : decode cX2_readDeed 22 = .ok (.dup, 1) := by decide +kernel
theorem dX2_readDeed_23 : decode cX2_readDeed 23 = .ok (.getfield 28, 3) := by decide +kernel
theorem dX2_readDeed_26 : decode cX2_readDeed 26 = .ok (.iconst 1, 1) := by decide +kernel
theorem dX2_readDeed_27 : decode cX2_readDeed 27 = .ok (.iadd, 1) := by decide +kernel
theorem dX2_readDeed_28 : decode cX2_readDeed 28 = .ok (.putfield 28, 3) := by decide +kernel
theorem dX2_readDeed_31 : decode cX2_readDeed 31 = .ok (.aload_n 0, 1) := by decide +kernel
theorem dX2_readDeed_32 : decode cX2_readDeed 32 = .ok (.iconst 0, 1) := by decide +kernel
theorem dX2_readDeed_33 : decode cX2_readDeed 33 = .ok (.iload_n 1, 1) := by decide +kernel
theorem dX2_readDeed_34 : decode cX2_readDeed 34 = .ok (.iload_n 2, 1) := by decide +kernel
theorem dX2_readDeed_35 : decode cX2_readDeed 35 = .ok (.bipush 97, 2) := by decide +kernel
theorem dX2_readDeed_37 : decode cX2_readDeed 37 = .ok (.isub, 1) := by decide +kernel
theorem dX2_readDeed_38 : decode cX2_readDeed 38 = .ok (.invokevirtual 42, 3) := by decide +kernel
theorem dX2_readDeed_41 : decode cX2_readDeed 41 = .ok (.ireturn, 1) := by decide +kernel
theorem dX2_readDeed_42 : decode cX2_readDeed 42 = .ok (.iload_n 2, 1) := by decide +kernel
theorem dX2_readDeed_43 : decode cX2_readDeed 43 = .ok (.bipush 45, 2) := by decide +kernel
theorem dX2_readDeed_45 : decode cX2_readDeed 45 = .ok (.if_icmp .ne 21, 3) := by decide +kernel
theorem dX2_readDeed_48 : decode cX2_readDeed 48 = .ok (.aload_n 0, 1) := by decide +kernel
theorem dX2_readDeed_49 : decode cX2_readDeed 49 = .ok (.dup, 1) := by decide +kernel
theorem dX2_readDeed_50 : decode cX2_readDeed 50 = .ok (.getfield 28, 3) := by decide +kernel
theorem dX2_readDeed_53 : decode cX2_readDeed 53 = .ok (.iconst 1, 1) := by decide +kernel
theorem dX2_readDeed_54 : decode cX2_readDeed 54 = .ok (.iadd, 1) := by decide +kernel
theorem dX2_readDeed_55 : decode cX2_readDeed 55 = .ok (.putfield 28, 3) := by decide +kernel
theorem dX2_readDeed_58 : decode cX2_readDeed 58 = .ok (.aload_n 0, 1) := by decide +kernel
theorem dX2_readDeed_59 : decode cX2_readDeed 59 = .ok (.iconst 1, 1) := by decide +kernel
theorem dX2_readDeed_60 : decode cX2_readDeed 60 = .ok (.iload_n 1, 1) := by decide +kernel
theorem dX2_readDeed_61 : decode cX2_readDeed 61 = .ok (.iconst 0, 1) := by decide +kernel
theorem dX2_readDeed_62 : decode cX2_readDeed 62 = .ok (.invokevirtual 42, 3) := by decide +kernel
theorem dX2_readDeed_65 : decode cX2_readDeed 65 = .ok (.ireturn, 1) := by decide +kernel
theorem dX2_readDeed_66 : decode cX2_readDeed 66 = .ok (.iload_n 2, 1) := by decide +kernel
theorem dX2_readDeed_67 : decode cX2_readDeed 67 = .ok (.bipush 62, 2) := by decide +kernel
theorem dX2_readDeed_69 : decode cX2_readDeed 69 = .ok (.if_icmp .eq 5, 3) := by decide +kernel
theorem dX2_readDeed_72 : decode cX2_readDeed 72 = .ok (.iconst 0, 1) := by decide +kernel
theorem dX2_readDeed_73 : decode cX2_readDeed 73 = .ok (.ireturn, 1) := by decide +kernel
theorem dX2_readDeed_74 : decode cX2_readDeed 74 = .ok (.aload_n 0, 1) := by decide +kernel
theorem dX2_readDeed_75 : decode cX2_readDeed 75 = .ok (.dup, 1) := by decide +kernel
theorem dX2_readDeed_76 : decode cX2_readDeed 76 = .ok (.getfield 28, 3) := by decide +kernel
theorem dX2_readDeed_79 : decode cX2_readDeed 79 = .ok (.iconst 1, 1) := by decide +kernel
theorem dX2_readDeed_80 : decode cX2_readDeed 80 = .ok (.iadd, 1) := by decide +kernel
theorem dX2_readDeed_81 : decode cX2_readDeed 81 = .ok (.putfield 28, 3) := by decide +kernel
theorem dX2_readDeed_84 : decode cX2_readDeed 84 = .ok (.aload_n 0, 1) := by decide +kernel
theorem dX2_readDeed_85 : decode cX2_readDeed 85 = .ok (.iconst 2, 1) := by decide +kernel
theorem dX2_readDeed_86 : decode cX2_readDeed 86 = .ok (.iload_n 1, 1) := by decide +kernel
theorem dX2_readDeed_87 : decode cX2_readDeed 87 = .ok (.invokevirtual 46, 3) := by decide +kernel
theorem dX2_readDeed_90 : decode cX2_readDeed 90 = .ok (.ireturn, 1) := by decide +kernel
set_option maxRecDepth 20000 in
theorem ggX2_readGallery_X2_signAt : GoodIn wsX2_readGallery wsX2_signAt := goodIn_r _ [6, 7, 8, 17, 18, 19, 20, 21, 22, 23] (by decide +kernel) (by decide +kernel)
set_option maxRecDepth 20000 in
theorem gX2_readGallery_X2_signAt : GoodIn wsX2_readGallery (wsV RX2 38 RX2 yX2_signAt wsX2_signAt) := goodIn_app (goodIn_of _ (by decide +kernel)) ggX2_readGallery_X2_signAt
set_option maxRecDepth 20000 in
theorem ggX2_readGallery_X2_addAct : GoodIn wsX2_readGallery wsX2_addAct := goodIn_r _ [12, 13, 14, 15, 16, 17, 18, 19, 20, 21, 22, 23] (by decide +kernel) (by decide +kernel)
set_option maxRecDepth 20000 in
theorem gX2_readGallery_X2_addAct : GoodIn wsX2_readGallery (wsV RX2 42 RX2 yX2_addAct wsX2_addAct) := goodIn_app (goodIn_of _ (by decide +kernel)) ggX2_readGallery_X2_addAct
theorem dX2_readGallery_0 : decode cX2_readGallery 0 = .ok (.aload_n 0, 1) := by decide +kernel
theorem dX2_readGallery_1 : decode cX2_readGallery 1 = .ok (.aload_n 0, 1) := by decide +kernel
theorem dX2_readGallery_2 : decode cX2_readGallery 2 = .ok (.getfield 28, 3) := by decide +kernel
theorem dX2_readGallery_5 : decode cX2_readGallery 5 = .ok (.invokevirtual 38, 3) := by decide +kernel
theorem dX2_readGallery_8 : decode cX2_readGallery 8 = .ok (.istore_n 3, 1) := by decide +kernel
theorem dX2_readGallery_9 : decode cX2_readGallery 9 = .ok (.iload_n 3, 1) := by decide +kernel
theorem dX2_readGallery_10 : decode cX2_readGallery 10 = .ok (.bipush 48, 2) := by decide +kernel
theorem dX2_readGallery_12 : decode cX2_readGallery 12 = .ok (.if_icmp .lt 9, 3) := by decide +kernel
theorem dX2_readGallery_15 : decode cX2_readGallery 15 = .ok (.iload_n 3, 1) := by decide +kernel
theorem dX2_readGallery_16 : decode cX2_readGallery 16 = .ok (.bipush 57, 2) := by decide +kernel
theorem dX2_readGallery_18 : decode cX2_readGallery 18 = .ok (.if_icmp .le 5, 3) := by decide +kernel
theorem dX2_readGallery_21 : decode cX2_readGallery 21 = .ok (.iconst 0, 1) := by decide +kernel
theorem dX2_readGallery_22 : decode cX2_readGallery 22 = .ok (.ireturn, 1) := by decide +kernel
theorem dX2_readGallery_23 : decode cX2_readGallery 23 = .ok (.aload_n 0, 1) := by decide +kernel
theorem dX2_readGallery_24 : decode cX2_readGallery 24 = .ok (.dup, 1) := by decide +kernel
theorem dX2_readGallery_25 : decode cX2_readGallery 25 = .ok (.getfield 28, 3) := by decide +kernel
theorem dX2_readGallery_28 : decode cX2_readGallery 28 = .ok (.iconst 1, 1) := by decide +kernel
theorem dX2_readGallery_29 : decode cX2_readGallery 29 = .ok (.iadd, 1) := by decide +kernel
theorem dX2_readGallery_30 : decode cX2_readGallery 30 = .ok (.putfield 28, 3) := by decide +kernel
theorem dX2_readGallery_33 : decode cX2_readGallery 33 = .ok (.aload_n 0, 1) := by decide +kernel
theorem dX2_readGallery_34 : decode cX2_readGallery 34 = .ok (.iload_n 1, 1) := by decide +kernel
theorem dX2_readGallery_35 : decode cX2_readGallery 35 = .ok (.iload_n 2, 1) := by decide +kernel
theorem dX2_readGallery_36 : decode cX2_readGallery 36 = .ok (.iload_n 3, 1) := by decide +kernel
theorem dX2_readGallery_37 : decode cX2_readGallery 37 = .ok (.bipush 48, 2) := by decide +kernel
theorem dX2_readGallery_39 : decode cX2_readGallery 39 = .ok (.isub, 1) := by decide +kernel
theorem dX2_readGallery_40 : decode cX2_readGallery 40 = .ok (.invokevirtual 42, 3) := by decide +kernel
theorem dX2_readGallery_43 : decode cX2_readGallery 43 = .ok (.ireturn, 1) := by decide +kernel
theorem dX2_addAct_0 : decode cX2_addAct 0 = .ok (.aload_n 0, 1) := by decide +kernel
theorem dX2_addAct_1 : decode cX2_addAct 1 = .ok (.getfield 24, 3) := by decide +kernel
theorem dX2_addAct_4 : decode cX2_addAct 4 = .ok (.bipush 60, 2) := by decide +kernel
theorem dX2_addAct_6 : decode cX2_addAct 6 = .ok (.if_icmp .lt 5, 3) := by decide +kernel
theorem dX2_addAct_9 : decode cX2_addAct 9 = .ok (.iconst 0, 1) := by decide +kernel
theorem dX2_addAct_10 : decode cX2_addAct 10 = .ok (.ireturn, 1) := by decide +kernel
theorem dX2_addAct_11 : decode cX2_addAct 11 = .ok (.aload_n 0, 1) := by decide +kernel
theorem dX2_addAct_12 : decode cX2_addAct 12 = .ok (.getfield 15, 3) := by decide +kernel
theorem dX2_addAct_15 : decode cX2_addAct 15 = .ok (.aload_n 0, 1) := by decide +kernel
theorem dX2_addAct_16 : decode cX2_addAct 16 = .ok (.getfield 24, 3) := by decide +kernel
theorem dX2_addAct_19 : decode cX2_addAct 19 = .ok (.iload_n 1, 1) := by decide +kernel
theorem dX2_addAct_20 : decode cX2_addAct 20 = .ok (.iastore, 1) := by decide +kernel
theorem dX2_addAct_21 : decode cX2_addAct 21 = .ok (.aload_n 0, 1) := by decide +kernel
theorem dX2_addAct_22 : decode cX2_addAct 22 = .ok (.getfield 18, 3) := by decide +kernel
theorem dX2_addAct_25 : decode cX2_addAct 25 = .ok (.aload_n 0, 1) := by decide +kernel
theorem dX2_addAct_26 : decode cX2_addAct 26 = .ok (.getfield 24, 3) := by decide +kernel
theorem dX2_addAct_29 : decode cX2_addAct 29 = .ok (.iload_n 2, 1) := by decide +kernel
theorem dX2_addAct_30 : decode cX2_addAct 30 = .ok (.iastore, 1) := by decide +kernel
theorem dX2_addAct_31 : decode cX2_addAct 31 = .ok (.aload_n 0, 1) := by decide +kernel
theorem dX2_addAct_32 : decode cX2_addAct 32 = .ok (.getfield 21, 3) := by decide +kernel
theorem dX2_addAct_35 : decode cX2_addAct 35 = .ok (.aload_n 0, 1) := by decide +kernel
theorem dX2_addAct_36 : decode cX2_addAct 36 = .ok (.getfield 24, 3) := by decide +kernel
theorem dX2_addAct_39 : decode cX2_addAct 39 = .ok (.iload_n 3, 1) := by decide +kernel
theorem dX2_addAct_40 : decode cX2_addAct 40 = .ok (.iastore, 1) := by decide +kernel
theorem dX2_addAct_41 : decode cX2_addAct 41 = .ok (.aload_n 0, 1) := by decide +kernel
theorem dX2_addAct_42 : decode cX2_addAct 42 = .ok (.dup, 1) := by decide +kernel
theorem dX2_addAct_43 : decode cX2_addAct 43 = .ok (.getfield 24, 3) := by decide +kernel
theorem dX2_addAct_46 : decode cX2_addAct 46 = .ok (.iconst 1, 1) := by decide +kernel
theorem dX2_addAct_47 : decode cX2_addAct 47 = .ok (.iadd, 1) := by decide +kernel
theorem dX2_addAct_48 : decode cX2_addAct 48 = .ok (.putfield 24, 3) := by decide +kernel
theorem dX2_addAct_51 : decode cX2_addAct 51 = .ok (.iconst 1, 1) := by decide +kernel
theorem dX2_addAct_52 : decode cX2_addAct 52 = .ok (.ireturn, 1) := by decide +kernel
theorem dX2_signAt_0 : decode cX2_signAt 0 = .ok (.iload_n 1, 1) := by decide +kernel
theorem dX2_signAt_1 : decode cX2_signAt 1 = .ok (.ifCond .lt 26, 3) := by decide +kernel
theorem dX2_signAt_4 : decode cX2_signAt 4 = .ok (.iload_n 1, 1) := by decide +kernel
theorem dX2_signAt_5 : decode cX2_signAt 5 = .ok (.aload_n 0, 1) := by decide +kernel
theorem dX2_signAt_6 : decode cX2_signAt 6 = .ok (.getfield 31, 3) := by decide +kernel
theorem dX2_signAt_9 : decode cX2_signAt 9 = .ok (.if_icmp .ge 18, 3) := by decide +kernel
theorem dX2_signAt_12 : decode cX2_signAt 12 = .ok (.iload_n 1, 1) := by decide +kernel
theorem dX2_signAt_13 : decode cX2_signAt 13 = .ok (.bipush 60, 2) := by decide +kernel
theorem dX2_signAt_15 : decode cX2_signAt 15 = .ok (.if_icmp .ge 12, 3) := by decide +kernel
theorem dX2_signAt_18 : decode cX2_signAt 18 = .ok (.aload_n 0, 1) := by decide +kernel
theorem dX2_signAt_19 : decode cX2_signAt 19 = .ok (.getfield 9, 3) := by decide +kernel
theorem dX2_signAt_22 : decode cX2_signAt 22 = .ok (.iload_n 1, 1) := by decide +kernel
theorem dX2_signAt_23 : decode cX2_signAt 23 = .ok (.iaload, 1) := by decide +kernel
theorem dX2_signAt_24 : decode cX2_signAt 24 = .ok (.goto 4, 3) := by decide +kernel
theorem dX2_signAt_27 : decode cX2_signAt 27 = .ok (.iconst 0, 1) := by decide +kernel
theorem dX2_signAt_28 : decode cX2_signAt 28 = .ok (.ireturn, 1) := by decide +kernel
set_option maxRecDepth 20000 in
theorem ggX3_init_X6_init : GoodIn wsX3_init wsX6_init := goodIn_r _ [14, 15, 2, 3, 8, 16, 17] (by decide +kernel) (by decide +kernel)
set_option maxRecDepth 20000 in
theorem gX3_init_X6_init_n11 : GoodIn wsX3_init (wsX6_init) := ggX3_init_X6_init
theorem dX3_init_0 : decode cX3_init 0 = .ok (.aload_n 0, 1) := by decide +kernel
theorem dX3_init_1 : decode cX3_init 1 = .ok (.invokespecial 3, 3) := by decide +kernel
theorem dX3_init_4 : decode cX3_init 4 = .ok (.aload_n 0, 1) := by decide +kernel
theorem dX3_init_5 : decode cX3_init 5 = .ok (.new 9, 3) := by decide +kernel
theorem dX3_init_8 : decode cX3_init 8 = .ok (.dup, 1) := by decide +kernel
theorem dX3_init_9 : decode cX3_init 9 = .ok (.invokespecial 11, 3) := by decide +kernel
theorem dX3_init_12 : decode cX3_init 12 = .ok (.putfield 12, 3) := by decide +kernel
theorem dX3_init_15 : decode cX3_init 15 = .ok (.aload_n 0, 1) := by decide +kernel
theorem dX3_init_16 : decode cX3_init 16 = .ok (.bipush 10, 2) := by decide +kernel
theorem dX3_init_18 : decode cX3_init 18 = .ok (.newarray .int, 2) := by decide +kernel
theorem dX3_init_20 : decode cX3_init 20 = .ok (.putfield 18, 3) := by decide +kernel
theorem dX3_init_23 : decode cX3_init 23 = .ok (.aload_n 0, 1) := by decide +kernel
theorem dX3_init_24 : decode cX3_init 24 = .ok (.bipush 25, 2) := by decide +kernel
theorem dX3_init_26 : decode cX3_init 26 = .ok (.newarray .int, 2) := by decide +kernel
theorem dX3_init_28 : decode cX3_init 28 = .ok (.putfield 22, 3) := by decide +kernel
theorem dX3_init_31 : decode cX3_init 31 = .ok (.aload_n 0, 1) := by decide +kernel
theorem dX3_init_32 : decode cX3_init 32 = .ok (.bipush (-6), 2) := by decide +kernel
theorem dX3_init_34 : decode cX3_init 34 = .ok (.putfield 25, 3) := by decide +kernel
theorem dX3_init_37 : decode cX3_init 37 = .ok (.aload_n 0, 1) := by decide +kernel
theorem dX3_init_38 : decode cX3_init 38 = .ok (.bipush (-6), 2) := by decide +kernel
theorem dX3_init_40 : decode cX3_init 40 = .ok (.putfield 29, 3) := by decide +kernel
theorem dX3_init_43 : decode cX3_init 43 = .ok (.return_, 1) := by decide +kernel
set_option maxRecDepth 20000 in
theorem ggX3_findFits_J7_fill_53178 : GoodIn wsX3_findFits wsJ7_fill_53178 := goodIn_r _ [13] (by decide +kernel) (by decide +kernel)
set_option maxRecDepth 20000 in
theorem gX3_findFits_J7_fill_53178 : GoodIn wsX3_findFits (va_wsS RX3 33 yJ7_fill_53178 wsJ7_fill_53178) := goodIn_app (goodIn_of _ (by decide +kernel)) ggX3_findFits_J7_fill_53178
set_option maxRecDepth 20000 in
theorem ggX3_findFits_X6_measure : GoodIn wsX3_findFits wsX6_measure := goodIn_r _ [18, 19, 20, 11, 12, 13, 21, 22, 23, 49] (by decide +kernel) (by decide +kernel)
set_option maxRecDepth 20000 in
theorem gX3_findFits_X6_measure : GoodIn wsX3_findFits (wsV RX3 53 RX6 yX6_measure wsX6_measure) := goodIn_app (goodIn_of _ (by decide +kernel)) ggX3_findFits_X6_measure
set_option maxRecDepth 20000 in
theorem ggX3_findFits_X3_notesHeardAs : GoodIn wsX3_findFits wsX3_notesHeardAs := goodIn_r _ [27, 2] (by decide +kernel) (by decide +kernel)
set_option maxRecDepth 20000 in
theorem gX3_findFits_X3_notesHeardAs : GoodIn wsX3_findFits (va_wsS RX3 63 yX3_notesHeardAs wsX3_notesHeardAs) := goodIn_app (goodIn_of _ (by decide +kernel)) ggX3_findFits_X3_notesHeardAs
theorem dX3_findFits_0 : decode cX3_findFits 0 = .ok (.aload_n 0, 1) := by decide +kernel
theorem dX3_findFits_1 : decode cX3_findFits 1 = .ok (.getfield 18, 3) := by decide +kernel
theorem dX3_findFits_4 : decode cX3_findFits 4 = .ok (.ldc 32, 2) := by decide +kernel
theorem dX3_findFits_6 : decode cX3_findFits 6 = .ok (.invokestatic 33, 3) := by decide +kernel
theorem dX3_findFits_9 : decode cX3_findFits 9 = .ok (.iconst 0, 1) := by decide +kernel
theorem dX3_findFits_10 : decode cX3_findFits 10 = .ok (.istore_n 2, 1) := by decide +kernel
theorem dX3_findFits_11 : decode cX3_findFits 11 = .ok (.iload_n 2, 1) := by decide +kernel
theorem dX3_findFits_12 : decode cX3_findFits 12 = .ok (.aload_n 1, 1) := by decide +kernel
theorem dX3_findFits_13 : decode cX3_findFits 13 = .ok (.getfield 39, 3) := by decide +kernel
theorem dX3_findFits_16 : decode cX3_findFits 16 = .ok (.if_icmp .ge 83, 3) := by decide +kernel
theorem dX3_findFits_19 : decode cX3_findFits 19 = .ok (.iload_n 2, 1) := by decide +kernel
theorem dX3_findFits_20 : decode cX3_findFits 20 = .ok (.bipush 8, 2) := by decide +kernel
theorem dX3_findFits_22 : decode cX3_findFits 22 = .ok (.if_icmp .ge 77, 3) := by decide +kernel
theorem dX3_findFits_25 : decode cX3_findFits 25 = .ok (.aload_n 0, 1) := by decide +kernel
theorem dX3_findFits_26 : decode cX3_findFits 26 = .ok (.getfield 12, 3) := by decide +kernel
theorem dX3_findFits_29 : decode cX3_findFits 29 = .ok (.aload_n 1, 1) := by decide +kernel
theorem dX3_findFits_30 : decode cX3_findFits 30 = .ok (.getfield 44, 3) := by decide +kernel
theorem dX3_findFits_33 : decode cX3_findFits 33 = .ok (.iload_n 2, 1) := by decide +kernel
theorem dX3_findFits_34 : decode cX3_findFits 34 = .ok (.iaload, 1) := by decide +kernel
theorem dX3_findFits_35 : decode cX3_findFits 35 = .ok (.aload_n 1, 1) := by decide +kernel
theorem dX3_findFits_36 : decode cX3_findFits 36 = .ok (.getfield 47, 3) := by decide +kernel
theorem dX3_findFits_39 : decode cX3_findFits 39 = .ok (.sipush 1023, 3) := by decide +kernel
theorem dX3_findFits_42 : decode cX3_findFits 42 = .ok (.aload_n 1, 1) := by decide +kernel
theorem dX3_findFits_43 : decode cX3_findFits 43 = .ok (.getfield 50, 3) := by decide +kernel
theorem dX3_findFits_46 : decode cX3_findFits 46 = .ok (.iconst (-1), 1) := by decide +kernel
theorem dX3_findFits_47 : decode cX3_findFits 47 = .ok (.ixor, 1) := by decide +kernel
theorem dX3_findFits_48 : decode cX3_findFits 48 = .ok (.iand, 1) := by decide +kernel
theorem dX3_findFits_49 : decode cX3_findFits 49 = .ok (.invokevirtual 53, 3) := by decide +kernel
theorem dX3_findFits_52 : decode cX3_findFits 52 = .ok (.iconst 0, 1) := by decide +kernel
theorem dX3_findFits_53 : decode cX3_findFits 53 = .ok (.istore_n 3, 1) := by decide +kernel
theorem dX3_findFits_54 : decode cX3_findFits 54 = .ok (.iload_n 3, 1) := by decide +kernel
theorem dX3_findFits_55 : decode cX3_findFits 55 = .ok (.bipush 10, 2) := by decide +kernel
theorem dX3_findFits_57 : decode cX3_findFits 57 = .ok (.if_icmp .ge 36, 3) := by decide +kernel
theorem dX3_findFits_60 : decode cX3_findFits 60 = .ok (.aload_n 0, 1) := by decide +kernel
theorem dX3_findFits_61 : decode cX3_findFits 61 = .ok (.getfield 18, 3) := by decide +kernel
theorem dX3_findFits_64 : decode cX3_findFits 64 = .ok (.iload_n 3, 1) := by decide +kernel
theorem dX3_findFits_65 : decode cX3_findFits 65 = .ok (.dup2, 1) := by decide +kernel
theorem dX3_findFits_66 : decode cX3_findFits 66 = .ok (.iaload, 1) := by decide +kernel
theorem dX3_findFits_67 : decode cX3_findFits 67 = .ok (.aload_n 1, 1) := by decide +kernel
theorem dX3_findFits_68 : decode cX3_findFits 68 = .ok (.getfield 57, 3) := by decide +kernel
theorem dX3_findFits_71 : decode cX3_findFits 71 = .ok (.iload_n 2, 1) := by decide +kernel
theorem dX3_findFits_72 : decode cX3_findFits 72 = .ok (.iaload, 1) := by decide +kernel
theorem dX3_findFits_73 : decode cX3_findFits 73 = .ok (.aload_n 0, 1) := by decide +kernel
theorem dX3_findFits_74 : decode cX3_findFits 74 = .ok (.getfield 12, 3) := by decide +kernel
theorem dX3_findFits_77 : decode cX3_findFits 77 = .ok (.getfield 60, 3) := by decide +kernel
theorem dX3_findFits_80 : decode cX3_findFits 80 = .ok (.iload_n 3, 1) := by decide +kernel
theorem dX3_findFits_81 : decode cX3_findFits 81 = .ok (.iaload, 1) := by decide +kernel
theorem dX3_findFits_82 : decode cX3_findFits 82 = .ok (.invokestatic 63, 3) := by decide +kernel
theorem dX3_findFits_85 : decode cX3_findFits 85 = .ok (.iand, 1) := by decide +kernel
theorem dX3_findFits_86 : decode cX3_findFits 86 = .ok (.iastore, 1) := by decide +kernel
theorem dX3_findFits_87 : decode cX3_findFits 87 = .ok (.iinc 3 1, 3) := by decide +kernel
theorem dX3_findFits_90 : decode cX3_findFits 90 = .ok (.goto (-36), 3) := by decide +kernel
theorem dX3_findFits_93 : decode cX3_findFits 93 = .ok (.iinc 2 1, 3) := by decide +kernel
theorem dX3_findFits_96 : decode cX3_findFits 96 = .ok (.goto (-85), 3) := by decide +kernel
theorem dX3_findFits_99 : decode cX3_findFits 99 = .ok (.return_, 1) := by decide +kernel
set_option maxRecDepth 20000 in
theorem ggX3_fitCount_J6_bitCount_0f7a4 : GoodIn wsX3_fitCount wsJ6_bitCount_0f7a4 := goodIn_r _ [5, 6, 7, 8] (by decide +kernel) (by decide +kernel)
set_option maxRecDepth 20000 in
theorem gX3_fitCount_J6_bitCount_0f7a4 : GoodIn wsX3_fitCount (va_wsS RX3 67 yJ6_bitCount_0f7a4 wsJ6_bitCount_0f7a4) := goodIn_app (goodIn_of _ (by decide +kernel)) ggX3_fitCount_J6_bitCount_0f7a4
theorem dX3_fitCount_0 : decode cX3_fitCount 0 = .ok (.iconst 0, 1) := by decide +kernel
theorem dX3_fitCount_1 : decode cX3_fitCount 1 = .ok (.istore_n 1, 1) := by decide +kernel
theorem dX3_fitCount_2 : decode cX3_fitCount 2 = .ok (.iconst 0, 1) := by decide +kernel
theorem dX3_fitCount_3 : decode cX3_fitCount 3 = .ok (.istore_n 2, 1) := by decide +kernel
theorem dX3_fitCount_4 : decode cX3_fitCount 4 = .ok (.iload_n 2, 1) := by decide +kernel
theorem dX3_fitCount_5 : decode cX3_fitCount 5 = .ok (.bipush 10, 2) := by decide +kernel
theorem dX3_fitCount_7 : decode cX3_fitCount 7 = .ok (.if_icmp .ge 21, 3) := by decide +kernel
theorem dX3_fitCount_10 : decode cX3_fitCount 10 = .ok (.iload_n 1, 1) := by decide +kernel
theorem dX3_fitCount_11 : decode cX3_fitCount 11 = .ok (.aload_n 0, 1) := by decide +kernel
theorem dX3_fitCount_12 : decode cX3_fitCount 12 = .ok (.getfield 18, 3) := by decide +kernel
theorem dX3_fitCount_15 : decode cX3_fitCount 15 = .ok (.iload_n 2, 1) := by decide +kernel
theorem dX3_fitCount_16 : decode cX3_fitCount 16 = .ok (.iaload, 1) := by decide +kernel
theorem dX3_fitCount_17 : decode cX3_fitCount 17 = .ok (.invokestatic 67, 3) := by decide +kernel
theorem dX3_fitCount_20 : decode cX3_fitCount 20 = .ok (.iadd, 1) := by decide +kernel
theorem dX3_fitCount_21 : decode cX3_fitCount 21 = .ok (.istore_n 1, 1) := by decide +kernel
theorem dX3_fitCount_22 : decode cX3_fitCount 22 = .ok (.iinc 2 1, 3) := by decide +kernel
theorem dX3_fitCount_25 : decode cX3_fitCount 25 = .ok (.goto (-21), 3) := by decide +kernel
theorem dX3_fitCount_28 : decode cX3_fitCount 28 = .ok (.iload_n 1, 1) := by decide +kernel
theorem dX3_fitCount_29 : decode cX3_fitCount 29 = .ok (.ireturn, 1) := by decide +kernel
set_option maxRecDepth 20000 in
theorem ggX3_fitAt_J6_bitCount_0f7a4 : GoodIn wsX3_fitAt wsJ6_bitCount_0f7a4 := goodIn_r _ [5, 6, 7, 8] (by decide +kernel) (by decide +kernel)
set_option maxRecDepth 20000 in
theorem gX3_fitAt_J6_bitCount_0f7a4 : GoodIn wsX3_fitAt (va_wsS RX3 67 yJ6_bitCount_0f7a4 wsJ6_bitCount_0f7a4) := goodIn_app (goodIn_of _ (by decide +kernel)) ggX3_fitAt_J6_bitCount_0f7a4
set_option maxRecDepth 20000 in
theorem ggX3_fitAt_X3_bitAt : GoodIn wsX3_fitAt wsX3_bitAt := goodIn_r _ [12, 13, 14, 15, 16, 17, 4, 18, 19] (by decide +kernel) (by decide +kernel)
set_option maxRecDepth 20000 in
theorem gX3_fitAt_X3_bitAt : GoodIn wsX3_fitAt (va_wsS RX3 73 yX3_bitAt wsX3_bitAt) := goodIn_app (goodIn_of _ (by decide +kernel)) ggX3_fitAt_X3_bitAt
theorem dX3_fitAt_0 : decode cX3_fitAt 0 = .ok (.iload_n 1, 1) := by decide +kernel
theorem dX3_fitAt_1 : decode cX3_fitAt 1 = .ok (.istore_n 2, 1) := by decide +kernel
theorem dX3_fitAt_2 : decode cX3_fitAt 2 = .ok (.iload_n 2, 1) := by decide +kernel
theorem dX3_fitAt_3 : decode cX3_fitAt 3 = .ok (.ifCond .ge 6, 3) := by decide +kernel
theorem dX3_fitAt_6 : decode cX3_fitAt 6 = .ok (.bipush (-6), 2) := by decide +kernel
theorem dX3_fitAt_8 : decode cX3_fitAt 8 = .ok (.ireturn, 1) := by decide +kernel
theorem dX3_fitAt_9 : decode cX3_fitAt 9 = .ok (.iconst 0, 1) := by decide +kernel
theorem dX3_fitAt_10 : decode cX3_fitAt 10 = .ok (.istore_n 3, 1) := by decide +kernel
theorem dX3_fitAt_11 : decode cX3_fitAt 11 = .ok (.iload_n 3, 1) := by decide +kernel
theorem dX3_fitAt_12 : decode cX3_fitAt 12 = .ok (.bipush 10, 2) := by decide +kernel
theorem dX3_fitAt_14 : decode cX3_fitAt 14 = .ok (.if_icmp .ge 47, 3) := by decide +kernel
theorem dX3_fitAt_17 : decode cX3_fitAt 17 = .ok (.aload_n 0, 1) := by decide +kernel
theorem dX3_fitAt_18 : decode cX3_fitAt 18 = .ok (.getfield 18, 3) := by decide +kernel
theorem dX3_fitAt_21 : decode cX3_fitAt 21 = .ok (.iload_n 3, 1) := by decide +kernel
theorem dX3_fitAt_22 : decode cX3_fitAt 22 = .ok (.iaload, 1) := by decide +kernel
theorem dX3_fitAt_23 : decode cX3_fitAt 23 = .ok (.invokestatic 67, 3) := by decide +kernel
theorem dX3_fitAt_26 : decode cX3_fitAt 26 = .ok (.istore 4, 2) := by decide +kernel
theorem dX3_fitAt_28 : decode cX3_fitAt 28 = .ok (.iload_n 2, 1) := by decide +kernel
theorem dX3_fitAt_29 : decode cX3_fitAt 29 = .ok (.iload 4, 2) := by decide +kernel
theorem dX3_fitAt_31 : decode cX3_fitAt 31 = .ok (.if_icmp .ge 19, 3) := by decide +kernel
theorem dX3_fitAt_34 : decode cX3_fitAt 34 = .ok (.bipush 100, 2) := by decide +kernel
theorem dX3_fitAt_36 : decode cX3_fitAt 36 = .ok (.iload_n 3, 1) := by decide +kernel
theorem dX3_fitAt_37 : decode cX3_fitAt 37 = .ok (.imul, 1) := by decide +kernel
theorem dX3_fitAt_38 : decode cX3_fitAt 38 = .ok (.aload_n 0, 1) := by decide +kernel
theorem dX3_fitAt_39 : decode cX3_fitAt 39 = .ok (.getfield 18, 3) := by decide +kernel
theorem dX3_fitAt_42 : decode cX3_fitAt 42 = .ok (.iload_n 3, 1) := by decide +kernel
theorem dX3_fitAt_43 : decode cX3_fitAt 43 = .ok (.iaload, 1) := by decide +kernel
theorem dX3_fitAt_44 : decode cX3_fitAt 44 = .ok (.iload_n 2, 1) := by decide +kernel
theorem dX3_fitAt_45 : decode cX3_fitAt 45 = .ok (.invokestatic 73, 3) := by decide +kernel
theorem dX3_fitAt_48 : decode cX3_fitAt 48 = .ok (.iadd, 1) := by decide +kernel
theorem dX3_fitAt_49 : decode cX3_fitAt 49 = .ok (.ireturn, 1) := by decide +kernel
theorem dX3_fitAt_50 : decode cX3_fitAt 50 = .ok (.iload_n 2, 1) := by decide +kernel
theorem dX3_fitAt_51 : decode cX3_fitAt 51 = .ok (.iload 4, 2) := by decide +kernel
theorem dX3_fitAt_53 : decode cX3_fitAt 53 = .ok (.isub, 1) := by decide +kernel
theorem dX3_fitAt_54 : decode cX3_fitAt 54 = .ok (.istore_n 2, 1) := by decide +kernel
theorem dX3_fitAt_55 : decode cX3_fitAt 55 = .ok (.iinc 3 1, 3) := by decide +kernel
theorem dX3_fitAt_58 : decode cX3_fitAt 58 = .ok (.goto (-47), 3) := by decide +kernel
theorem dX3_fitAt_61 : decode cX3_fitAt 61 = .ok (.bipush (-6), 2) := by decide +kernel
theorem dX3_fitAt_63 : decode cX3_fitAt 63 = .ok (.ireturn, 1) := by decide +kernel
set_option maxRecDepth 20000 in
theorem ggX3_chooseListening_X6_measure : GoodIn wsX3_chooseListening wsX6_measure := goodIn_r _ [10, 11, 12, 13, 14, 15, 16, 17, 18, 64] (by decide +kernel) (by decide +kernel)
set_option maxRecDepth 20000 in
theorem gX3_chooseListening_X6_measure : GoodIn wsX3_chooseListening (wsV RX3 53 RX6 yX6_measure wsX6_measure) := goodIn_app (goodIn_of _ (by decide +kernel)) ggX3_chooseListening_X6_measure
set_option maxRecDepth 20000 in
theorem ggX3_chooseListening_X3_mostLeftHere : GoodIn wsX3_chooseListening wsX3_mostLeftHere := goodIn_r _ [23, 24, 25, 3, 26, 27, 28, 29, 30, 31, 13, 14, 15, 32, 33, 34, 22, 35, 36, 37, 38, 39, 40, 41, 42, 16, 17, 18, 43, 44, 45, 46, 47, 64] (by decide +kernel) (by decide +kernel)
set_option maxRecDepth 20000 in
theorem gX3_chooseListening_X3_mostLeftHere : GoodIn wsX3_chooseListening (wsV RX3 76 RX3 yX3_mostLeftHere wsX3_mostLeftHere) := goodIn_app (goodIn_of _ (by decide +kernel)) ggX3_chooseListening_X3_mostLeftHere
theorem dX3_chooseListening_0 : decode cX3_chooseListening 0 = .ok (.aload_n 0, 1) := by decide +kernel
theorem dX3_chooseListening_1 : decode cX3_chooseListening 1 = .ok (.bipush (-6), 2) := by decide +kernel
theorem dX3_chooseListening_3 : decode cX3_chooseListening 3 = .ok (.putfield 25, 3) := by decide +kernel
theorem dX3_chooseListening_6 : decode cX3_chooseListening 6 = .ok (.aload_n 0, 1) := by decide +kernel
theorem dX3_chooseListening_7 : decode cX3_chooseListening 7 = .ok (.bipush (-6), 2) := by decide +kernel
theorem dX3_chooseListening_9 : decode cX3_chooseListening 9 = .ok (.putfield 29, 3) := by decide +kernel
theorem dX3_chooseListening_12 : decode cX3_chooseListening 12 = .ok (.iconst 0, 1) := by decide +kernel
theorem dX3_chooseListening_13 : decode cX3_chooseListening 13 = .ok (.istore_n 2, 1) := by decide +kernel
theorem dX3_chooseListening_14 : decode cX3_chooseListening 14 = .ok (.iload_n 2, 1) := by decide +kernel
theorem dX3_chooseListening_15 : decode cX3_chooseListening 15 = .ok (.bipush 10, 2) := by decide +kernel
theorem dX3_chooseListening_17 : decode cX3_chooseListening 17 = .ok (.if_icmp .ge 63, 3) := by decide +kernel
theorem dX3_chooseListening_20 : decode cX3_chooseListening 20 = .ok (.aload_n 0, 1) := by decide +kernel
theorem dX3_chooseListening_21 : decode cX3_chooseListening 21 = .ok (.getfield 12, 3) := by decide +kernel
theorem dX3_chooseListening_24 : decode cX3_chooseListening 24 = .ok (.iload_n 2, 1) := by decide +kernel
theorem dX3_chooseListening_25 : decode cX3_chooseListening 25 = .ok (.aload_n 1, 1) := by decide +kernel
theorem dX3_chooseListening_26 : decode cX3_chooseListening 26 = .ok (.getfield 47, 3) := by decide +kernel
theorem dX3_chooseListening_29 : decode cX3_chooseListening 29 = .ok (.sipush 1023, 3) := by decide +kernel
theorem dX3_chooseListening_32 : decode cX3_chooseListening 32 = .ok (.aload_n 1, 1) := by decide +kernel
theorem dX3_chooseListening_33 : decode cX3_chooseListening 33 = .ok (.getfield 50, 3) := by decide +kernel
theorem dX3_chooseListening_36 : decode cX3_chooseListening 36 = .ok (.iconst (-1), 1) := by decide +kernel
theorem dX3_chooseListening_37 : decode cX3_chooseListening 37 = .ok (.ixor, 1) := by decide +kernel
theorem dX3_chooseListening_38 : decode cX3_chooseListening 38 = .ok (.iand, 1) := by decide +kernel
theorem dX3_chooseListening_39 : decode cX3_chooseListening 39 = .ok (.invokevirtual 53, 3) := by decide +kernel
theorem dX3_chooseListening_42 : decode cX3_chooseListening 42 = .ok (.aload_n 0, 1) := by decide +kernel
theorem dX3_chooseListening_43 : decode cX3_chooseListening 43 = .ok (.invokevirtual 76, 3) := by decide +kernel
theorem dX3_chooseListening_46 : decode cX3_chooseListening 46 = .ok (.istore_n 3, 1) := by decide +kernel
theorem dX3_chooseListening_47 : decode cX3_chooseListening 47 = .ok (.aload_n 0, 1) := by decide +kernel
theorem dX3_chooseListening_48 : decode cX3_chooseListening 48 = .ok (.getfield 25, 3) := by decide +kernel
theorem dX3_chooseListening_51 : decode cX3_chooseListening 51 = .ok (.bipush (-6), 2) := by decide +kernel
theorem dX3_chooseListening_53 : decode cX3_chooseListening 53 = .ok (.if_icmp .eq 11, 3) := by decide +kernel
theorem dX3_chooseListening_56 : decode cX3_chooseListening 56 = .ok (.iload_n 3, 1) := by decide +kernel
theorem dX3_chooseListening_57 : decode cX3_chooseListening 57 = .ok (.aload_n 0, 1) := by decide +kernel
theorem dX3_chooseListening_58 : decode cX3_chooseListening 58 = .ok (.getfield 29, 3) := by decide +kernel
theorem dX3_chooseListening_61 : decode cX3_chooseListening 61 = .ok (.if_icmp .ge 13, 3) := by decide +kernel
theorem dX3_chooseListening_64 : decode cX3_chooseListening 64 = .ok (.aload_n 0, 1) := by decide +kernel
theorem dX3_chooseListening_65 : decode cX3_chooseListening 65 = .ok (.iload_n 2, 1) := by decide +kernel
theorem dX3_chooseListening_66 : decode cX3_chooseListening 66 = .ok (.putfield 25, 3) := by decide +kernel
theorem dX3_chooseListening_69 : decode cX3_chooseListening 69 = .ok (.aload_n 0, 1) := by decide +kernel
theorem dX3_chooseListening_70 : decode cX3_chooseListening 70 = .ok (.iload_n 3, 1) := by decide +kernel
theorem dX3_chooseListening_71 : decode cX3_chooseListening 71 = .ok (.putfield 29, 3) := by decide +kernel
theorem dX3_chooseListening_74 : decode cX3_chooseListening 74 = .ok (.iinc 2 1, 3) := by decide +kernel
theorem dX3_chooseListening_77 : decode cX3_chooseListening 77 = .ok (.goto (-63), 3) := by decide +kernel
theorem dX3_chooseListening_80 : decode cX3_chooseListening 80 = .ok (.return_, 1) := by decide +kernel
set_option maxRecDepth 20000 in
theorem ggX3_mostLeftHere_J7_fill_53178 : GoodIn wsX3_mostLeftHere wsJ7_fill_53178 := goodIn_r _ [12] (by decide +kernel) (by decide +kernel)
set_option maxRecDepth 20000 in
theorem gX3_mostLeftHere_J7_fill_53178 : GoodIn wsX3_mostLeftHere (va_wsS RX3 33 yJ7_fill_53178 wsJ7_fill_53178) := goodIn_app (goodIn_of _ (by decide +kernel)) ggX3_mostLeftHere_J7_fill_53178
set_option maxRecDepth 20000 in
theorem ggX3_mostLeftHere_X3_countHeard : GoodIn wsX3_mostLeftHere wsX3_countHeard := goodIn_r _ [17, 1, 18, 19, 20, 21, 22, 23, 24, 25, 26, 27, 28, 29, 30, 31, 32] (by decide +kernel) (by decide +kernel)
set_option maxRecDepth 20000 in
theorem gX3_mostLeftHere_X3_countHeard : GoodIn wsX3_mostLeftHere (wsV RX3 80 RX3 yX3_countHeard wsX3_countHeard) := goodIn_app (goodIn_of _ (by decide +kernel)) ggX3_mostLeftHere_X3_countHeard
theorem dX3_mostLeftHere_0 : decode cX3_mostLeftHere 0 = .ok (.aload_n 0, 1) := by decide +kernel
theorem dX3_mostLeftHere_1 : decode cX3_mostLeftHere 1 = .ok (.getfield 22, 3) := by decide +kernel
theorem dX3_mostLeftHere_4 : decode cX3_mostLeftHere 4 = .ok (.iconst 0, 1) := by decide +kernel
theorem dX3_mostLeftHere_5 : decode cX3_mostLeftHere 5 = .ok (.invokestatic 33, 3) := by decide +kernel
theorem dX3_mostLeftHere_8 : decode cX3_mostLeftHere 8 = .ok (.iconst 0, 1) := by decide +kernel
theorem dX3_mostLeftHere_9 : decode cX3_mostLeftHere 9 = .ok (.istore_n 1, 1) := by decide +kernel
theorem dX3_mostLeftHere_10 : decode cX3_mostLeftHere 10 = .ok (.iload_n 1, 1) := by decide +kernel
theorem dX3_mostLeftHere_11 : decode cX3_mostLeftHere 11 = .ok (.bipush 10, 2) := by decide +kernel
theorem dX3_mostLeftHere_13 : decode cX3_mostLeftHere 13 = .ok (.if_icmp .ge 28, 3) := by decide +kernel
theorem dX3_mostLeftHere_16 : decode cX3_mostLeftHere 16 = .ok (.aload_n 0, 1) := by decide +kernel
theorem dX3_mostLeftHere_17 : decode cX3_mostLeftHere 17 = .ok (.aload_n 0, 1) := by decide +kernel
theorem dX3_mostLeftHere_18 : decode cX3_mostLeftHere 18 = .ok (.getfield 18, 3) := by decide +kernel
theorem dX3_mostLeftHere_21 : decode cX3_mostLeftHere 21 = .ok (.iload_n 1, 1) := by decide +kernel
theorem dX3_mostLeftHere_22 : decode cX3_mostLeftHere 22 = .ok (.iaload, 1) := by decide +kernel
theorem dX3_mostLeftHere_23 : decode cX3_mostLeftHere 23 = .ok (.aload_n 0, 1) := by decide +kernel
theorem dX3_mostLeftHere_24 : decode cX3_mostLeftHere 24 = .ok (.getfield 12, 3) := by decide +kernel
