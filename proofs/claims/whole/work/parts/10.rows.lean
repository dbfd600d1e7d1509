theorem dX8_isLost_9 : decode cX8_isLost 9 = .ok (.iconst 1, 1) := by decide +kernel
theorem dX8_isLost_10 : decode cX8_isLost 10 = .ok (.goto 4, 3) := by decide +kernel
theorem dX8_isLost_13 : decode cX8_isLost 13 = .ok (.iconst 0, 1) := by decide +kernel
theorem dX8_isLost_14 : decode cX8_isLost 14 = .ok (.istore_n 2, 1) := by decide +kernel
theorem dX8_isLost_15 : decode cX8_isLost 15 = .ok (.iconst 0, 1) := by decide +kernel
theorem dX8_isLost_16 : decode cX8_isLost 16 = .ok (.istore_n 3, 1) := by decide +kernel
theorem dX8_isLost_17 : decode cX8_isLost 17 = .ok (.iload_n 3, 1) := by decide +kernel
theorem dX8_isLost_18 : decode cX8_isLost 18 = .ok (.aload_n 0, 1) := by decide +kernel
theorem dX8_isLost_19 : decode cX8_isLost 19 = .ok (.getfield 160, 3) := by decide +kernel
theorem dX8_isLost_22 : decode cX8_isLost 22 = .ok (.if_icmp .ge 45, 3) := by decide +kernel
theorem dX8_isLost_25 : decode cX8_isLost 25 = .ok (.iload_n 2, 1) := by decide +kernel
theorem dX8_isLost_26 : decode cX8_isLost 26 = .ok (.ifCond .eq 41, 3) := by decide +kernel
theorem dX8_isLost_29 : decode cX8_isLost 29 = .ok (.aload_n 0, 1) := by decide +kernel
theorem dX8_isLost_30 : decode cX8_isLost 30 = .ok (.iload_n 1, 1) := by decide +kernel
theorem dX8_isLost_31 : decode cX8_isLost 31 = .ok (.aload_n 0, 1) := by decide +kernel
theorem dX8_isLost_32 : decode cX8_isLost 32 = .ok (.getfield 31, 3) := by decide +kernel
theorem dX8_isLost_35 : decode cX8_isLost 35 = .ok (.iconst 2, 1) := by decide +kernel
theorem dX8_isLost_36 : decode cX8_isLost 36 = .ok (.iload_n 3, 1) := by decide +kernel
theorem dX8_isLost_37 : decode cX8_isLost 37 = .ok (.imul, 1) := by decide +kernel
theorem dX8_isLost_38 : decode cX8_isLost 38 = .ok (.iaload, 1) := by decide +kernel
theorem dX8_isLost_39 : decode cX8_isLost 39 = .ok (.invokevirtual 163, 3) := by decide +kernel
theorem dX8_isLost_42 : decode cX8_isLost 42 = .ok (.aload_n 0, 1) := by decide +kernel
theorem dX8_isLost_43 : decode cX8_isLost 43 = .ok (.getfield 31, 3) := by decide +kernel
theorem dX8_isLost_46 : decode cX8_isLost 46 = .ok (.iconst 2, 1) := by decide +kernel
theorem dX8_isLost_47 : decode cX8_isLost 47 = .ok (.iload_n 3, 1) := by decide +kernel
theorem dX8_isLost_48 : decode cX8_isLost 48 = .ok (.imul, 1) := by decide +kernel
theorem dX8_isLost_49 : decode cX8_isLost 49 = .ok (.iconst 1, 1) := by decide +kernel
theorem dX8_isLost_50 : decode cX8_isLost 50 = .ok (.iadd, 1) := by decide +kernel
theorem dX8_isLost_51 : decode cX8_isLost 51 = .ok (.iaload, 1) := by decide +kernel
theorem dX8_isLost_52 : decode cX8_isLost 52 = .ok (.if_icmp .ne 7, 3) := by decide +kernel
theorem dX8_isLost_55 : decode cX8_isLost 55 = .ok (.iconst 1, 1) := by decide +kernel
theorem dX8_isLost_56 : decode cX8_isLost 56 = .ok (.goto 4, 3) := by decide +kernel
theorem dX8_isLost_59 : decode cX8_isLost 59 = .ok (.iconst 0, 1) := by decide +kernel
theorem dX8_isLost_60 : decode cX8_isLost 60 = .ok (.istore_n 2, 1) := by decide +kernel
theorem dX8_isLost_61 : decode cX8_isLost 61 = .ok (.iinc 3 1, 3) := by decide +kernel
theorem dX8_isLost_64 : decode cX8_isLost 64 = .ok (.goto (-47), 3) := by decide +kernel
theorem dX8_isLost_67 : decode cX8_isLost 67 = .ok (.iload_n 2, 1) := by decide +kernel
theorem dX8_isLost_68 : decode cX8_isLost 68 = .ok (.ireturn, 1) := by decide +kernel
set_option maxRecDepth 20000 in
theorem ggX8_losts_X8_layApart : GoodIn wsX8_losts wsX8_layApart := goodIn_r _ [5, 6, 7, 8, 9, 10, 11, 4, 12, 13, 14, 15, 16, 17, 28, 29, 30, 31, 32, 33, 34, 35, 36, 37, 38, 39, 40, 41, 42, 43, 44, 45, 46, 47, 48, 49, 50, 51] (by decide +kernel) (by decide +kernel)
set_option maxRecDepth 20000 in
theorem gX8_losts_X8_layApart : GoodIn wsX8_losts (wsV RX8 166 RX8 yX8_layApart wsX8_layApart) := goodIn_app (goodIn_of _ (by decide +kernel)) ggX8_losts_X8_layApart
set_option maxRecDepth 20000 in
theorem ggX8_losts_X8_isLost : GoodIn wsX8_losts wsX8_isLost := goodIn_r _ [21, 22, 23, 24, 25, 26, 4, 27, 7, 28, 29, 30, 31, 32, 33, 34, 35, 36, 37, 38, 39, 40, 41, 42, 43, 44, 45, 46, 47, 48, 49, 50, 51] (by decide +kernel) (by decide +kernel)
set_option maxRecDepth 20000 in
theorem gX8_losts_X8_isLost : GoodIn wsX8_losts (wsV RX8 169 RX8 yX8_isLost wsX8_isLost) := goodIn_app (goodIn_of _ (by decide +kernel)) ggX8_losts_X8_isLost
theorem dX8_losts_0 : decode cX8_losts 0 = .ok (.aload_n 0, 1) := by decide +kernel
theorem dX8_losts_1 : decode cX8_losts 1 = .ok (.invokevirtual 166, 3) := by decide +kernel
theorem dX8_losts_4 : decode cX8_losts 4 = .ok (.iconst 0, 1) := by decide +kernel
theorem dX8_losts_5 : decode cX8_losts 5 = .ok (.istore_n 2, 1) := by decide +kernel
theorem dX8_losts_6 : decode cX8_losts 6 = .ok (.iconst 0, 1) := by decide +kernel
theorem dX8_losts_7 : decode cX8_losts 7 = .ok (.istore_n 3, 1) := by decide +kernel
theorem dX8_losts_8 : decode cX8_losts 8 = .ok (.iload_n 3, 1) := by decide +kernel
theorem dX8_losts_9 : decode cX8_losts 9 = .ok (.sipush 1000, 3) := by decide +kernel
theorem dX8_losts_12 : decode cX8_losts 12 = .ok (.if_icmp .ge 27, 3) := by decide +kernel
theorem dX8_losts_15 : decode cX8_losts 15 = .ok (.aload_n 0, 1) := by decide +kernel
theorem dX8_losts_16 : decode cX8_losts 16 = .ok (.iload_n 3, 1) := by decide +kernel
theorem dX8_losts_17 : decode cX8_losts 17 = .ok (.invokevirtual 169, 3) := by decide +kernel
theorem dX8_losts_20 : decode cX8_losts 20 = .ok (.ifCond .eq 13, 3) := by decide +kernel
theorem dX8_losts_23 : decode cX8_losts 23 = .ok (.iload_n 2, 1) := by decide +kernel
theorem dX8_losts_24 : decode cX8_losts 24 = .ok (.iload_n 1, 1) := by decide +kernel
theorem dX8_losts_25 : decode cX8_losts 25 = .ok (.if_icmp .ne 5, 3) := by decide +kernel
theorem dX8_losts_28 : decode cX8_losts 28 = .ok (.iload_n 3, 1) := by decide +kernel
theorem dX8_losts_29 : decode cX8_losts 29 = .ok (.ireturn, 1) := by decide +kernel
theorem dX8_losts_30 : decode cX8_losts 30 = .ok (.iinc 2 1, 3) := by decide +kernel
theorem dX8_losts_33 : decode cX8_losts 33 = .ok (.iinc 3 1, 3) := by decide +kernel
theorem dX8_losts_36 : decode cX8_losts 36 = .ok (.goto (-28), 3) := by decide +kernel
theorem dX8_losts_39 : decode cX8_losts 39 = .ok (.iload_n 1, 1) := by decide +kernel
theorem dX8_losts_40 : decode cX8_losts 40 = .ok (.iconst (-1), 1) := by decide +kernel
theorem dX8_losts_41 : decode cX8_losts 41 = .ok (.if_icmp .ne 7, 3) := by decide +kernel
theorem dX8_losts_44 : decode cX8_losts 44 = .ok (.iload_n 2, 1) := by decide +kernel
theorem dX8_losts_45 : decode cX8_losts 45 = .ok (.goto 5, 3) := by decide +kernel
theorem dX8_losts_48 : decode cX8_losts 48 = .ok (.bipush (-6), 2) := by decide +kernel
theorem dX8_losts_50 : decode cX8_losts 50 = .ok (.ireturn, 1) := by decide +kernel
set_option maxRecDepth 20000 in
theorem ggX8_listen_X8_in : GoodIn wsX8_listen wsX8_in := goodIn_r _ [6] (by decide +kernel) (by decide +kernel)
set_option maxRecDepth 20000 in
theorem gX8_listen_X8_in : GoodIn wsX8_listen (va_wsS RX8 59 yX8_in wsX8_in) := goodIn_app (goodIn_of _ (by decide +kernel)) ggX8_listen_X8_in
set_option maxRecDepth 20000 in
theorem ggX8_listen_X8_layApart : GoodIn wsX8_listen wsX8_layApart := goodIn_r _ [10, 11, 12, 13, 14, 15, 16, 5, 17, 1, 18, 19, 20, 21, 32, 33, 34, 35, 36, 37, 38, 39, 40, 41, 42, 43, 44, 45, 46, 47, 48, 49, 50, 51, 52, 53, 54, 55] (by decide +kernel) (by decide +kernel)
set_option maxRecDepth 20000 in
theorem gX8_listen_X8_layApart : GoodIn wsX8_listen (wsV RX8 166 RX8 yX8_layApart wsX8_layApart) := goodIn_app (goodIn_of _ (by decide +kernel)) ggX8_listen_X8_layApart
set_option maxRecDepth 20000 in
theorem ggX8_listen_X8_isLost : GoodIn wsX8_listen wsX8_isLost := goodIn_r _ [25, 26, 27, 28, 29, 30, 5, 31, 12, 32, 33, 34, 35, 36, 37, 38, 39, 40, 41, 42, 43, 44, 45, 46, 47, 48, 49, 50, 51, 52, 53, 54, 55] (by decide +kernel) (by decide +kernel)
set_option maxRecDepth 20000 in
theorem gX8_listen_X8_isLost : GoodIn wsX8_listen (wsV RX8 169 RX8 yX8_isLost wsX8_isLost) := goodIn_app (goodIn_of _ (by decide +kernel)) ggX8_listen_X8_isLost
set_option maxRecDepth 20000 in
theorem ggX8_listen_X8_noteIn : GoodIn wsX8_listen wsX8_noteIn := goodIn_r _ [31, 12, 32, 33, 34, 35, 36, 37, 38, 39, 40, 41, 42, 43, 44, 45, 46, 47, 48, 49, 50, 51, 52, 53, 54, 55] (by decide +kernel) (by decide +kernel)
set_option maxRecDepth 20000 in
theorem gX8_listen_X8_noteIn : GoodIn wsX8_listen (wsV RX8 163 RX8 yX8_noteIn wsX8_noteIn) := goodIn_app (goodIn_of _ (by decide +kernel)) ggX8_listen_X8_noteIn
theorem dX8_listen_0 : decode cX8_listen 0 = .ok (.iload_n 1, 1) := by decide +kernel
theorem dX8_listen_1 : decode cX8_listen 1 = .ok (.iconst 0, 1) := by decide +kernel
theorem dX8_listen_2 : decode cX8_listen 2 = .ok (.iconst 1, 1) := by decide +kernel
theorem dX8_listen_3 : decode cX8_listen 3 = .ok (.invokestatic 59, 3) := by decide +kernel
theorem dX8_listen_6 : decode cX8_listen 6 = .ok (.ifCond .ne 6, 3) := by decide +kernel
theorem dX8_listen_9 : decode cX8_listen 9 = .ok (.bipush (-2), 2) := by decide +kernel
theorem dX8_listen_11 : decode cX8_listen 11 = .ok (.ireturn, 1) := by decide +kernel
theorem dX8_listen_12 : decode cX8_listen 12 = .ok (.aload_n 0, 1) := by decide +kernel
theorem dX8_listen_13 : decode cX8_listen 13 = .ok (.invokevirtual 166, 3) := by decide +kernel
theorem dX8_listen_16 : decode cX8_listen 16 = .ok (.bipush (-6), 2) := by decide +kernel
theorem dX8_listen_18 : decode cX8_listen 18 = .ok (.istore_n 2, 1) := by decide +kernel
theorem dX8_listen_19 : decode cX8_listen 19 = .ok (.ldc 144, 2) := by decide +kernel
theorem dX8_listen_21 : decode cX8_listen 21 = .ok (.istore_n 3, 1) := by decide +kernel
theorem dX8_listen_22 : decode cX8_listen 22 = .ok (.iconst 0, 1) := by decide +kernel
theorem dX8_listen_23 : decode cX8_listen 23 = .ok (.istore 4, 2) := by decide +kernel
theorem dX8_listen_25 : decode cX8_listen 25 = .ok (.iload 4, 2) := by decide +kernel
theorem dX8_listen_27 : decode cX8_listen 27 = .ok (.bipush 10, 2) := by decide +kernel
theorem dX8_listen_29 : decode cX8_listen 29 = .ok (.if_icmp .ge 153, 3) := by decide +kernel
theorem dX8_listen_32 : decode cX8_listen 32 = .ok (.iconst 0, 1) := by decide +kernel
theorem dX8_listen_33 : decode cX8_listen 33 = .ok (.istore 5, 2) := by decide +kernel
theorem dX8_listen_35 : decode cX8_listen 35 = .ok (.iconst 0, 1) := by decide +kernel
theorem dX8_listen_36 : decode cX8_listen 36 = .ok (.istore 6, 2) := by decide +kernel
theorem dX8_listen_38 : decode cX8_listen 38 = .ok (.iload 6, 2) := by decide +kernel
theorem dX8_listen_40 : decode cX8_listen 40 = .ok (.bipush 25, 2) := by decide +kernel
theorem dX8_listen_42 : decode cX8_listen 42 = .ok (.if_icmp .ge 17, 3) := by decide +kernel
theorem dX8_listen_45 : decode cX8_listen 45 = .ok (.aload_n 0, 1) := by decide +kernel
theorem dX8_listen_46 : decode cX8_listen 46 = .ok (.getfield 50, 3) := by decide +kernel
theorem dX8_listen_49 : decode cX8_listen 49 = .ok (.iload 6, 2) := by decide +kernel
theorem dX8_listen_51 : decode cX8_listen 51 = .ok (.iconst 0, 1) := by decide +kernel
theorem dX8_listen_52 : decode cX8_listen 52 = .ok (.iastore, 1) := by decide +kernel
theorem dX8_listen_53 : decode cX8_listen 53 = .ok (.iinc 6 1, 3) := by decide +kernel
theorem dX8_listen_56 : decode cX8_listen 56 = .ok (.goto (-18), 3) := by decide +kernel
theorem dX8_listen_59 : decode cX8_listen 59 = .ok (.iconst 0, 1) := by decide +kernel
theorem dX8_listen_60 : decode cX8_listen 60 = .ok (.istore 6, 2) := by decide +kernel
theorem dX8_listen_62 : decode cX8_listen 62 = .ok (.iload 6, 2) := by decide +kernel
theorem dX8_listen_64 : decode cX8_listen 64 = .ok (.sipush 1000, 3) := by decide +kernel
theorem dX8_listen_67 : decode cX8_listen 67 = .ok (.if_icmp .ge 67, 3) := by decide +kernel
theorem dX8_listen_70 : decode cX8_listen 70 = .ok (.aload_n 0, 1) := by decide +kernel
theorem dX8_listen_71 : decode cX8_listen 71 = .ok (.iload 6, 2) := by decide +kernel
theorem dX8_listen_73 : decode cX8_listen 73 = .ok (.invokevirtual 169, 3) := by decide +kernel
theorem dX8_listen_76 : decode cX8_listen 76 = .ok (.ifCond .eq 52, 3) := by decide +kernel
theorem dX8_listen_79 : decode cX8_listen 79 = .ok (.aload_n 0, 1) := by decide +kernel
theorem dX8_listen_80 : decode cX8_listen 80 = .ok (.iload 6, 2) := by decide +kernel
theorem dX8_listen_82 : decode cX8_listen 82 = .ok (.iload 4, 2) := by decide +kernel
theorem dX8_listen_84 : decode cX8_listen 84 = .ok (.invokevirtual 163, 3) := by decide +kernel
theorem dX8_listen_87 : decode cX8_listen 87 = .ok (.iconst 1, 1) := by decide +kernel
theorem dX8_listen_88 : decode cX8_listen 88 = .ok (.iadd, 1) := by decide +kernel
theorem dX8_listen_89 : decode cX8_listen 89 = .ok (.istore 7, 2) := by decide +kernel
theorem dX8_listen_91 : decode cX8_listen 91 = .ok (.aload_n 0, 1) := by decide +kernel
theorem dX8_listen_92 : decode cX8_listen 92 = .ok (.getfield 50, 3) := by decide +kernel
theorem dX8_listen_95 : decode cX8_listen 95 = .ok (.iload 7, 2) := by decide +kernel
theorem dX8_listen_97 : decode cX8_listen 97 = .ok (.dup2, 1) := by decide +kernel
theorem dX8_listen_98 : decode cX8_listen 98 = .ok (.iaload, 1) := by decide +kernel
theorem dX8_listen_99 : decode cX8_listen 99 = .ok (.iconst 1, 1) := by decide +kernel
theorem dX8_listen_100 : decode cX8_listen 100 = .ok (.iadd, 1) := by decide +kernel
theorem dX8_listen_101 : decode cX8_listen 101 = .ok (.iastore, 1) := by decide +kernel
theorem dX8_listen_102 : decode cX8_listen 102 = .ok (.aload_n 0, 1) := by decide +kernel
theorem dX8_listen_103 : decode cX8_listen 103 = .ok (.getfield 50, 3) := by decide +kernel
theorem dX8_listen_106 : decode cX8_listen 106 = .ok (.iload 7, 2) := by decide +kernel
theorem dX8_listen_108 : decode cX8_listen 108 = .ok (.iaload, 1) := by decide +kernel
theorem dX8_listen_109 : decode cX8_listen 109 = .ok (.iload 5, 2) := by decide +kernel
theorem dX8_listen_111 : decode cX8_listen 111 = .ok (.if_icmp .le 13, 3) := by decide +kernel
theorem dX8_listen_114 : decode cX8_listen 114 = .ok (.aload_n 0, 1) := by decide +kernel
theorem dX8_listen_115 : decode cX8_listen 115 = .ok (.getfield 50, 3) := by decide +kernel
theorem dX8_listen_118 : decode cX8_listen 118 = .ok (.iload 7, 2) := by decide +kernel
theorem dX8_listen_120 : decode cX8_listen 120 = .ok (.iaload, 1) := by decide +kernel
theorem dX8_listen_121 : decode cX8_listen 121 = .ok (.goto 5, 3) := by decide +kernel
theorem dX8_listen_124 : decode cX8_listen 124 = .ok (.iload 5, 2) := by decide +kernel
theorem dX8_listen_126 : decode cX8_listen 126 = .ok (.istore 5, 2) := by decide +kernel
theorem dX8_listen_128 : decode cX8_listen 128 = .ok (.iinc 6 1, 3) := by decide +kernel
theorem dX8_listen_131 : decode cX8_listen 131 = .ok (.goto (-69), 3) := by decide +kernel
theorem dX8_listen_134 : decode cX8_listen 134 = .ok (.iload 5, 2) := by decide +kernel
theorem dX8_listen_136 : decode cX8_listen 136 = .ok (.ifCond .le 13, 3) := by decide +kernel
theorem dX8_listen_139 : decode cX8_listen 139 = .ok (.iload 5, 2) := by decide +kernel
theorem dX8_listen_141 : decode cX8_listen 141 = .ok (.iload_n 3, 1) := by decide +kernel
theorem dX8_listen_142 : decode cX8_listen 142 = .ok (.if_icmp .ge 7, 3) := by decide +kernel
theorem dX8_listen_145 : decode cX8_listen 145 = .ok (.iconst 1, 1) := by decide +kernel
theorem dX8_listen_146 : decode cX8_listen 146 = .ok (.goto 4, 3) := by decide +kernel
theorem dX8_listen_149 : decode cX8_listen 149 = .ok (.iconst 0, 1) := by decide +kernel
theorem dX8_listen_150 : decode cX8_listen 150 = .ok (.istore 6, 2) := by decide +kernel
theorem dX8_listen_152 : decode cX8_listen 152 = .ok (.iload 6, 2) := by decide +kernel
theorem dX8_listen_154 : decode cX8_listen 154 = .ok (.ifCond .eq 8, 3) := by decide +kernel
theorem dX8_listen_157 : decode cX8_listen 157 = .ok (.iload 4, 2) := by decide +kernel
theorem dX8_listen_159 : decode cX8_listen 159 = .ok (.goto 4, 3) := by decide +kernel
theorem dX8_listen_162 : decode cX8_listen 162 = .ok (.iload_n 2, 1) := by decide +kernel
theorem dX8_listen_163 : decode cX8_listen 163 = .ok (.istore_n 2, 1) := by decide +kernel
theorem dX8_listen_164 : decode cX8_listen 164 = .ok (.iload 6, 2) := by decide +kernel
theorem dX8_listen_166 : decode cX8_listen 166 = .ok (.ifCond .eq 8, 3) := by decide +kernel
theorem dX8_listen_169 : decode cX8_listen 169 = .ok (.iload 5, 2) := by decide +kernel
theorem dX8_listen_171 : decode cX8_listen 171 = .ok (.goto 4, 3) := by decide +kernel
theorem dX8_listen_174 : decode cX8_listen 174 = .ok (.iload_n 3, 1) := by decide +kernel
theorem dX8_listen_175 : decode cX8_listen 175 = .ok (.istore_n 3, 1) := by decide +kernel
theorem dX8_listen_176 : decode cX8_listen 176 = .ok (.iinc 4 1, 3) := by decide +kernel
theorem dX8_listen_179 : decode cX8_listen 179 = .ok (.goto (-154), 3) := by decide +kernel
theorem dX8_listen_182 : decode cX8_listen 182 = .ok (.iload_n 2, 1) := by decide +kernel
theorem dX8_listen_183 : decode cX8_listen 183 = .ok (.ifCond .lt 7, 3) := by decide +kernel
theorem dX8_listen_186 : decode cX8_listen 186 = .ok (.iload_n 1, 1) := by decide +kernel
theorem dX8_listen_187 : decode cX8_listen 187 = .ok (.ifCond .ne 7, 3) := by decide +kernel
theorem dX8_listen_190 : decode cX8_listen 190 = .ok (.iload_n 2, 1) := by decide +kernel
theorem dX8_listen_191 : decode cX8_listen 191 = .ok (.goto 4, 3) := by decide +kernel
theorem dX8_listen_194 : decode cX8_listen 194 = .ok (.iload_n 3, 1) := by decide +kernel
theorem dX8_listen_195 : decode cX8_listen 195 = .ok (.ireturn, 1) := by decide +kernel
theorem dX8_power_0 : decode cX8_power 0 = .ok (.lconst 1, 1) := by decide +kernel
theorem dX8_power_1 : decode cX8_power 1 = .ok (.lstore_n 3, 1) := by decide +kernel
theorem dX8_power_2 : decode cX8_power 2 = .ok (.iconst 0, 1) := by decide +kernel
theorem dX8_power_3 : decode cX8_power 3 = .ok (.istore 5, 2) := by decide +kernel
theorem dX8_power_5 : decode cX8_power 5 = .ok (.iload 5, 2) := by decide +kernel
theorem dX8_power_7 : decode cX8_power 7 = .ok (.iload_n 2, 1) := by decide +kernel
theorem dX8_power_8 : decode cX8_power 8 = .ok (.if_icmp .ge 13, 3) := by decide +kernel
theorem dX8_power_11 : decode cX8_power 11 = .ok (.lload_n 3, 1) := by decide +kernel
theorem dX8_power_12 : decode cX8_power 12 = .ok (.lload_n 0, 1) := by decide +kernel
theorem dX8_power_13 : decode cX8_power 13 = .ok (.lmul, 1) := by decide +kernel
theorem dX8_power_14 : decode cX8_power 14 = .ok (.lstore_n 3, 1) := by decide +kernel
theorem dX8_power_15 : decode cX8_power 15 = .ok (.iinc 5 1, 3) := by decide +kernel
theorem dX8_power_18 : decode cX8_power 18 = .ok (.goto (-13), 3) := by decide +kernel
theorem dX8_power_21 : decode cX8_power 21 = .ok (.lload_n 3, 1) := by decide +kernel
theorem dX8_power_22 : decode cX8_power 22 = .ok (.lreturn, 1) := by decide +kernel
set_option maxRecDepth 20000 in
theorem ggX8_cold_X8_isGallery : GoodIn wsX8_cold wsX8_isGallery := goodIn_r _ [8, 9, 10, 7, 11] (by decide +kernel) (by decide +kernel)
set_option maxRecDepth 20000 in
theorem gX8_cold_X8_isGallery : GoodIn wsX8_cold (va_wsS RX8 71 yX8_isGallery wsX8_isGallery) := goodIn_app (goodIn_of _ (by decide +kernel)) ggX8_cold_X8_isGallery
set_option maxRecDepth 20000 in
theorem ggX8_cold_X8_in : GoodIn wsX8_cold wsX8_in := goodIn_r _ [11] (by decide +kernel) (by decide +kernel)
set_option maxRecDepth 20000 in
theorem gX8_cold_X8_in : GoodIn wsX8_cold (va_wsS RX8 59 yX8_in wsX8_in) := goodIn_app (goodIn_of _ (by decide +kernel)) ggX8_cold_X8_in
set_option maxRecDepth 20000 in
theorem ggX8_cold_X8_asNow : GoodIn wsX8_cold wsX8_asNow := goodIn_r _ [15, 16, 17, 18, 19, 35, 36, 37, 38, 39, 40, 41, 42, 43, 44, 45, 46, 47, 48, 49, 50, 51, 52, 53, 54, 55, 56, 57, 58] (by decide +kernel) (by decide +kernel)
set_option maxRecDepth 20000 in
theorem gX8_cold_X8_asNow : GoodIn wsX8_cold (wsV RX8 110 RX8 yX8_asNow wsX8_asNow) := goodIn_app (goodIn_of _ (by decide +kernel)) ggX8_cold_X8_asNow
set_option maxRecDepth 20000 in
theorem ggX8_cold_X8_sings : GoodIn wsX8_cold wsX8_sings := goodIn_r _ [23, 16, 24, 25, 26, 7, 27, 28, 9, 10, 11, 29, 30, 31, 35, 36, 37, 38, 39, 40, 41, 42, 43, 44, 45, 46, 47, 48, 49, 50, 51, 52, 53, 54, 55, 56, 57, 58] (by decide +kernel) (by decide +kernel)
set_option maxRecDepth 20000 in
theorem gX8_cold_X8_sings : GoodIn wsX8_cold (wsV RX8 92 RX8 yX8_sings wsX8_sings) := goodIn_app (goodIn_of _ (by decide +kernel)) ggX8_cold_X8_sings
set_option maxRecDepth 20000 in
theorem ggX8_cold_X8_power : GoodIn wsX8_cold wsX8_power := goodIn_r _ [34] (by decide +kernel) (by decide +kernel)
set_option maxRecDepth 20000 in
theorem gX8_cold_X8_power : GoodIn wsX8_cold (va_wsS RX8 180 yX8_power wsX8_power) := goodIn_app (goodIn_of _ (by decide +kernel)) ggX8_cold_X8_power
theorem dX8_cold_0 : decode cX8_cold 0 = .ok (.iload_n 1, 1) := by decide +kernel
theorem dX8_cold_1 : decode cX8_cold 1 = .ok (.invokestatic 71, 3) := by decide +kernel
theorem dX8_cold_4 : decode cX8_cold 4 = .ok (.ifCond .ne 7, 3) := by decide +kernel
theorem dX8_cold_7 : decode cX8_cold 7 = .ok (.ldc2_w 172, 3) := by decide +kernel
theorem dX8_cold_10 : decode cX8_cold 10 = .ok (.lreturn, 1) := by decide +kernel
theorem dX8_cold_11 : decode cX8_cold 11 = .ok (.iload_n 2, 1) := by decide +kernel
theorem dX8_cold_12 : decode cX8_cold 12 = .ok (.iconst 0, 1) := by decide +kernel
theorem dX8_cold_13 : decode cX8_cold 13 = .ok (.bipush 10, 2) := by decide +kernel
theorem dX8_cold_15 : decode cX8_cold 15 = .ok (.invokestatic 59, 3) := by decide +kernel
theorem dX8_cold_18 : decode cX8_cold 18 = .ok (.ifCond .eq 33, 3) := by decide +kernel
theorem dX8_cold_21 : decode cX8_cold 21 = .ok (.iload_n 3, 1) := by decide +kernel
theorem dX8_cold_22 : decode cX8_cold 22 = .ok (.iconst 0, 1) := by decide +kernel
theorem dX8_cold_23 : decode cX8_cold 23 = .ok (.bipush 9, 2) := by decide +kernel
theorem dX8_cold_25 : decode cX8_cold 25 = .ok (.invokestatic 59, 3) := by decide +kernel
theorem dX8_cold_28 : decode cX8_cold 28 = .ok (.ifCond .eq 23, 3) := by decide +kernel
theorem dX8_cold_31 : decode cX8_cold 31 = .ok (.iload 4, 2) := by decide +kernel
theorem dX8_cold_33 : decode cX8_cold 33 = .ok (.iconst 0, 1) := by decide +kernel
theorem dX8_cold_34 : decode cX8_cold 34 = .ok (.iconst 1, 1) := by decide +kernel
theorem dX8_cold_35 : decode cX8_cold 35 = .ok (.invokestatic 59, 3) := by decide +kernel
theorem dX8_cold_38 : decode cX8_cold 38 = .ok (.ifCond .eq 13, 3) := by decide +kernel
theorem dX8_cold_41 : decode cX8_cold 41 = .ok (.iload 5, 2) := by decide +kernel
theorem dX8_cold_43 : decode cX8_cold 43 = .ok (.iconst 0, 1) := by decide +kernel
theorem dX8_cold_44 : decode cX8_cold 44 = .ok (.iconst 1, 1) := by decide +kernel
theorem dX8_cold_45 : decode cX8_cold 45 = .ok (.invokestatic 59, 3) := by decide +kernel
theorem dX8_cold_48 : decode cX8_cold 48 = .ok (.ifCond .ne 7, 3) := by decide +kernel
theorem dX8_cold_51 : decode cX8_cold 51 = .ok (.ldc2_w 174, 3) := by decide +kernel
theorem dX8_cold_54 : decode cX8_cold 54 = .ok (.lreturn, 1) := by decide +kernel
theorem dX8_cold_55 : decode cX8_cold 55 = .ok (.aload_n 0, 1) := by decide +kernel
theorem dX8_cold_56 : decode cX8_cold 56 = .ok (.invokevirtual 110, 3) := by decide +kernel
theorem dX8_cold_59 : decode cX8_cold 59 = .ok (.iconst 0, 1) := by decide +kernel
theorem dX8_cold_60 : decode cX8_cold 60 = .ok (.istore 6, 2) := by decide +kernel
theorem dX8_cold_62 : decode cX8_cold 62 = .ok (.iconst 0, 1) := by decide +kernel
theorem dX8_cold_63 : decode cX8_cold 63 = .ok (.istore 7, 2) := by decide +kernel
theorem dX8_cold_65 : decode cX8_cold 65 = .ok (.iload 7, 2) := by decide +kernel
theorem dX8_cold_67 : decode cX8_cold 67 = .ok (.bipush 8, 2) := by decide +kernel
theorem dX8_cold_69 : decode cX8_cold 69 = .ok (.if_icmp .ge 29, 3) := by decide +kernel
theorem dX8_cold_72 : decode cX8_cold 72 = .ok (.iload 6, 2) := by decide +kernel
theorem dX8_cold_74 : decode cX8_cold 74 = .ok (.aload_n 0, 1) := by decide +kernel
theorem dX8_cold_75 : decode cX8_cold 75 = .ok (.iload 7, 2) := by decide +kernel
theorem dX8_cold_77 : decode cX8_cold 77 = .ok (.iload_n 1, 1) := by decide +kernel
theorem dX8_cold_78 : decode cX8_cold 78 = .ok (.invokevirtual 92, 3) := by decide +kernel
theorem dX8_cold_81 : decode cX8_cold 81 = .ok (.ifCond .eq 7, 3) := by decide +kernel
theorem dX8_cold_84 : decode cX8_cold 84 = .ok (.iconst 1, 1) := by decide +kernel
theorem dX8_cold_85 : decode cX8_cold 85 = .ok (.goto 4, 3) := by decide +kernel
theorem dX8_cold_88 : decode cX8_cold 88 = .ok (.iconst 0, 1) := by decide +kernel
theorem dX8_cold_89 : decode cX8_cold 89 = .ok (.iadd, 1) := by decide +kernel
theorem dX8_cold_90 : decode cX8_cold 90 = .ok (.istore 6, 2) := by decide +kernel
theorem dX8_cold_92 : decode cX8_cold 92 = .ok (.iinc 7 1, 3) := by decide +kernel
theorem dX8_cold_95 : decode cX8_cold 95 = .ok (.goto (-30), 3) := by decide +kernel
theorem dX8_cold_98 : decode cX8_cold 98 = .ok (.iload 4, 2) := by decide +kernel
theorem dX8_cold_100 : decode cX8_cold 100 = .ok (.ifCond .ne 16, 3) := by decide +kernel
theorem dX8_cold_103 : decode cX8_cold 103 = .ok (.iload_n 3, 1) := by decide +kernel
theorem dX8_cold_104 : decode cX8_cold 104 = .ok (.iload 6, 2) := by decide +kernel
theorem dX8_cold_106 : decode cX8_cold 106 = .ok (.imul, 1) := by decide +kernel
theorem dX8_cold_107 : decode cX8_cold 107 = .ok (.bipush 18, 2) := by decide +kernel
theorem dX8_cold_109 : decode cX8_cold 109 = .ok (.if_icmp .le 7, 3) := by decide +kernel
theorem dX8_cold_112 : decode cX8_cold 112 = .ok (.ldc2_w 176, 3) := by decide +kernel
theorem dX8_cold_115 : decode cX8_cold 115 = .ok (.lreturn, 1) := by decide +kernel
theorem dX8_cold_116 : decode cX8_cold 116 = .ok (.ldc2_w 178, 3) := by decide +kernel
theorem dX8_cold_119 : decode cX8_cold 119 = .ok (.iload_n 3, 1) := by decide +kernel
theorem dX8_cold_120 : decode cX8_cold 120 = .ok (.invokestatic 180, 3) := by decide +kernel
theorem dX8_cold_123 : decode cX8_cold 123 = .ok (.lstore 7, 2) := by decide +kernel
theorem dX8_cold_125 : decode cX8_cold 125 = .ok (.ldc2_w 178, 3) := by decide +kernel
theorem dX8_cold_128 : decode cX8_cold 128 = .ok (.iload_n 2, 1) := by decide +kernel
theorem dX8_cold_129 : decode cX8_cold 129 = .ok (.i2l, 1) := by decide +kernel
theorem dX8_cold_130 : decode cX8_cold 130 = .ok (.lsub, 1) := by decide +kernel
theorem dX8_cold_131 : decode cX8_cold 131 = .ok (.iload_n 3, 1) := by decide +kernel
theorem dX8_cold_132 : decode cX8_cold 132 = .ok (.invokestatic 180, 3) := by decide +kernel
theorem dX8_cold_135 : decode cX8_cold 135 = .ok (.lstore 9, 2) := by decide +kernel
theorem dX8_cold_137 : decode cX8_cold 137 = .ok (.iload 6, 2) := by decide +kernel
theorem dX8_cold_139 : decode cX8_cold 139 = .ok (.i2l, 1) := by decide +kernel
theorem dX8_cold_140 : decode cX8_cold 140 = .ok (.lload 9, 2) := by decide +kernel
theorem dX8_cold_142 : decode cX8_cold 142 = .ok (.lmul, 1) := by decide +kernel
theorem dX8_cold_143 : decode cX8_cold 143 = .ok (.lstore 11, 2) := by decide +kernel
theorem dX8_cold_145 : decode cX8_cold 145 = .ok (.iload 4, 2) := by decide +kernel
theorem dX8_cold_147 : decode cX8_cold 147 = .ok (.ifCond .ne 32, 3) := by decide +kernel
theorem dX8_cold_150 : decode cX8_cold 150 = .ok (.lload 7, 2) := by decide +kernel
theorem dX8_cold_152 : decode cX8_cold 152 = .ok (.iload 6, 2) := by decide +kernel
theorem dX8_cold_154 : decode cX8_cold 154 = .ok (.invokestatic 180, 3) := by decide +kernel
theorem dX8_cold_157 : decode cX8_cold 157 = .ok (.lload 7, 2) := by decide +kernel
theorem dX8_cold_159 : decode cX8_cold 159 = .ok (.lload 9, 2) := by decide +kernel
theorem dX8_cold_161 : decode cX8_cold 161 = .ok (.lsub, 1) := by decide +kernel
theorem dX8_cold_162 : decode cX8_cold 162 = .ok (.iload 6, 2) := by decide +kernel
theorem dX8_cold_164 : decode cX8_cold 164 = .ok (.invokestatic 180, 3) := by decide +kernel
theorem dX8_cold_167 : decode cX8_cold 167 = .ok (.lsub, 1) := by decide +kernel
theorem dX8_cold_168 : decode cX8_cold 168 = .ok (.lstore 11, 2) := by decide +kernel
theorem dX8_cold_170 : decode cX8_cold 170 = .ok (.lload 7, 2) := by decide +kernel
theorem dX8_cold_172 : decode cX8_cold 172 = .ok (.iload 6, 2) := by decide +kernel
theorem dX8_cold_174 : decode cX8_cold 174 = .ok (.invokestatic 180, 3) := by decide +kernel
theorem dX8_cold_177 : decode cX8_cold 177 = .ok (.lstore 7, 2) := by decide +kernel
theorem dX8_cold_179 : decode cX8_cold 179 = .ok (.lload 11, 2) := by decide +kernel
theorem dX8_cold_181 : decode cX8_cold 181 = .ok (.lstore 13, 2) := by decide +kernel
theorem dX8_cold_183 : decode cX8_cold 183 = .ok (.lload 7, 2) := by decide +kernel
theorem dX8_cold_185 : decode cX8_cold 185 = .ok (.lstore 15, 2) := by decide +kernel
theorem dX8_cold_187 : decode cX8_cold 187 = .ok (.lload 15, 2) := by decide +kernel
theorem dX8_cold_189 : decode cX8_cold 189 = .ok (.lconst 0, 1) := by decide +kernel
theorem dX8_cold_190 : decode cX8_cold 190 = .ok (.lcmp, 1) := by decide +kernel
theorem dX8_cold_191 : decode cX8_cold 191 = .ok (.ifCond .eq 21, 3) := by decide +kernel
theorem dX8_cold_194 : decode cX8_cold 194 = .ok (.lload 13, 2) := by decide +kernel
theorem dX8_cold_196 : decode cX8_cold 196 = .ok (.lload 15, 2) := by decide +kernel
theorem dX8_cold_198 : decode cX8_cold 198 = .ok (.lrem, 1) := by decide +kernel
theorem dX8_cold_199 : decode cX8_cold 199 = .ok (.lstore 17, 2) := by decide +kernel
theorem dX8_cold_201 : decode cX8_cold 201 = .ok (.lload 15, 2) := by decide +kernel
theorem dX8_cold_203 : decode cX8_cold 203 = .ok (.lstore 13, 2) := by decide +kernel
theorem dX8_cold_205 : decode cX8_cold 205 = .ok (.lload 17, 2) := by decide +kernel
theorem dX8_cold_207 : decode cX8_cold 207 = .ok (.lstore 15, 2) := by decide +kernel
theorem dX8_cold_209 : decode cX8_cold 209 = .ok (.goto (-22), 3) := by decide +kernel
theorem dX8_cold_212 : decode cX8_cold 212 = .ok (.iload 5, 2) := by decide +kernel
theorem dX8_cold_214 : decode cX8_cold 214 = .ok (.ifCond .ne 11, 3) := by decide +kernel
theorem dX8_cold_217 : decode cX8_cold 217 = .ok (.lload 11, 2) := by decide +kernel
theorem dX8_cold_219 : decode cX8_cold 219 = .ok (.lload 13, 2) := by decide +kernel
theorem dX8_cold_221 : decode cX8_cold 221 = .ok (.ldiv, 1) := by decide +kernel
theorem dX8_cold_222 : decode cX8_cold 222 = .ok (.goto 8, 3) := by decide +kernel
theorem dX8_cold_225 : decode cX8_cold 225 = .ok (.lload 7, 2) := by decide +kernel
theorem dX8_cold_227 : decode cX8_cold 227 = .ok (.lload 13, 2) := by decide +kernel
theorem dX8_cold_229 : decode cX8_cold 229 = .ok (.ldiv, 1) := by decide +kernel
theorem dX8_cold_230 : decode cX8_cold 230 = .ok (.lreturn, 1) := by decide +kernel
set_option maxRecDepth 20000 in
theorem ggX8_year_X8_in : GoodIn wsX8_year wsX8_in := goodIn_r _ [7] (by decide +kernel) (by decide +kernel)
set_option maxRecDepth 20000 in
theorem gX8_year_X8_in : GoodIn wsX8_year (va_wsS RX8 59 yX8_in wsX8_in) := goodIn_app (goodIn_of _ (by decide +kernel)) ggX8_year_X8_in
set_option maxRecDepth 20000 in
theorem ggX8_year_X8_asNow : GoodIn wsX8_year wsX8_asNow := goodIn_r _ [11, 2, 12, 13, 14, 72, 73, 74, 75, 76, 77, 78, 79, 80, 81, 82, 83, 84, 85, 86, 87, 88, 89, 90, 91, 92, 93, 94, 95] (by decide +kernel) (by decide +kernel)
set_option maxRecDepth 20000 in
theorem gX8_year_X8_asNow : GoodIn wsX8_year (wsV RX8 110 RX8 yX8_asNow wsX8_asNow) := goodIn_app (goodIn_of _ (by decide +kernel)) ggX8_year_X8_asNow
set_option maxRecDepth 20000 in
theorem ggX8_year_X8_sing : GoodIn wsX8_year wsX8_sing := goodIn_r _ [18, 19, 20, 2, 21, 22, 23, 6, 24, 3, 4, 5, 7, 25, 26, 27, 72, 73, 74, 75, 76, 77, 78, 79, 80, 81, 82, 83, 84, 85, 86, 87, 88, 89, 90, 91, 92, 93, 94, 95] (by decide +kernel) (by decide +kernel)
set_option maxRecDepth 20000 in
theorem gX8_year_X8_sing : GoodIn wsX8_year (wsV RX8 132 RX8 yX8_sing wsX8_sing) := goodIn_app (goodIn_of _ (by decide +kernel)) ggX8_year_X8_sing
set_option maxRecDepth 20000 in
theorem ggX8_year_X8_hush : GoodIn wsX8_year wsX8_hush := goodIn_r _ [31, 2, 21, 22, 23, 6, 24, 3, 4, 5, 7, 25, 26, 27, 72, 73, 74, 75, 76, 77, 78, 79, 80, 81, 82, 83, 84, 85, 86, 87, 88, 89, 90, 91, 92, 93, 94, 95] (by decide +kernel) (by decide +kernel)
set_option maxRecDepth 20000 in
theorem gX8_year_X8_hush : GoodIn wsX8_year (wsV RX8 125 RX8 yX8_hush wsX8_hush) := goodIn_app (goodIn_of _ (by decide +kernel)) ggX8_year_X8_hush
set_option maxRecDepth 20000 in
theorem ggX8_year_X8_go : GoodIn wsX8_year wsX8_go := goodIn_r _ [35, 2, 36, 21, 22, 23, 6, 24, 3, 4, 5, 7, 25, 26, 27, 72, 73, 74, 75, 76, 77, 78, 79, 80, 81, 82, 83, 84, 85, 86, 87, 88, 89, 90, 91, 92, 93, 94, 95] (by decide +kernel) (by decide +kernel)
set_option maxRecDepth 20000 in
theorem gX8_year_X8_go : GoodIn wsX8_year (wsV RX8 128 RX8 yX8_go wsX8_go) := goodIn_app (goodIn_of _ (by decide +kernel)) ggX8_year_X8_go
set_option maxRecDepth 20000 in
theorem ggX8_year_X8_beat : GoodIn wsX8_year wsX8_beat := goodIn_r _ [40, 2, 41, 42, 43, 44, 45, 6, 46, 47, 48, 49, 50, 51, 52, 53, 54, 55, 56, 21, 22, 23, 24, 3, 4, 5, 7, 25, 26, 27, 57, 58, 59, 60, 72, 73, 74, 75, 76, 77, 78, 79, 80, 81, 82, 83, 84, 85, 86, 87, 88, 89, 90, 91, 92, 93, 94, 95] (by decide +kernel) (by decide +kernel)
set_option maxRecDepth 20000 in
theorem gX8_year_X8_beat : GoodIn wsX8_year (wsV RX8 122 RX8 yX8_beat wsX8_beat) := goodIn_app (goodIn_of _ (by decide +kernel)) ggX8_year_X8_beat
set_option maxRecDepth 20000 in
theorem ggX8_year_X8_has : GoodIn wsX8_year wsX8_has := goodIn_r _ [27] (by decide +kernel) (by decide +kernel)
set_option maxRecDepth 20000 in
theorem gX8_year_X8_has : GoodIn wsX8_year (va_wsS RX8 67 yX8_has wsX8_has) := goodIn_app (goodIn_of _ (by decide +kernel)) ggX8_year_X8_has
set_option maxRecDepth 20000 in
theorem ggX8_year_X8_coal : GoodIn wsX8_year wsX8_coal := goodIn_r _ [64, 2, 72, 73, 74, 75, 76, 77, 78, 79, 80, 81, 82, 83, 84, 85, 86, 87, 88, 89, 90, 91, 92, 93, 94, 95] (by decide +kernel) (by decide +kernel)
set_option maxRecDepth 20000 in
theorem gX8_year_X8_coal : GoodIn wsX8_year (wsV RX8 141 RX8 yX8_coal wsX8_coal) := goodIn_app (goodIn_of _ (by decide +kernel)) ggX8_year_X8_coal
set_option maxRecDepth 20000 in
theorem ggX8_year_X8_lamps : GoodIn wsX8_year wsX8_lamps := goodIn_r _ [68, 43, 44, 45, 6, 46, 47, 48, 49, 50, 51, 52, 2, 53, 54, 55, 56, 21, 22, 23, 24, 3, 4, 5, 7, 25, 26, 27, 57, 58, 59, 60, 72, 73, 74, 75, 76, 77, 78, 79, 80, 81, 82, 83, 84, 85, 86, 87, 88, 89, 90, 91, 92, 93, 94, 95] (by decide +kernel) (by decide +kernel)
set_option maxRecDepth 20000 in
theorem gX8_year_X8_lamps : GoodIn wsX8_year (wsV RX8 116 RX8 yX8_lamps wsX8_lamps) := goodIn_app (goodIn_of _ (by decide +kernel)) ggX8_year_X8_lamps
set_option maxRecDepth 20000 in
theorem ggX8_year_X8_bits : GoodIn wsX8_year wsX8_bits := goodIn_r _ [71] (by decide +kernel) (by decide +kernel)
set_option maxRecDepth 20000 in
theorem gX8_year_X8_bits : GoodIn wsX8_year (va_wsS RX8 75 yX8_bits wsX8_bits) := goodIn_app (goodIn_of _ (by decide +kernel)) ggX8_year_X8_bits
theorem dX8_year_0 : decode cX8_year 0 = .ok (.iload_n 1, 1) := by decide +kernel
theorem dX8_year_1 : decode cX8_year 1 = .ok (.iconst 0, 1) := by decide +kernel
theorem dX8_year_2 : decode cX8_year 2 = .ok (.sipush 9999, 3) := by decide +kernel
theorem dX8_year_5 : decode cX8_year 5 = .ok (.invokestatic 59, 3) := by decide +kernel
theorem dX8_year_8 : decode cX8_year 8 = .ok (.ifCond .eq 22, 3) := by decide +kernel
theorem dX8_year_11 : decode cX8_year 11 = .ok (.iload_n 2, 1) := by decide +kernel
theorem dX8_year_12 : decode cX8_year 12 = .ok (.iconst 1, 1) := by decide +kernel
theorem dX8_year_13 : decode cX8_year 13 = .ok (.bipush 99, 2) := by decide +kernel
theorem dX8_year_15 : decode cX8_year 15 = .ok (.invokestatic 59, 3) := by decide +kernel
theorem dX8_year_18 : decode cX8_year 18 = .ok (.ifCond .eq 12, 3) := by decide +kernel
theorem dX8_year_21 : decode cX8_year 21 = .ok (.iload_n 3, 1) := by decide +kernel
theorem dX8_year_22 : decode cX8_year 22 = .ok (.iconst 0, 1) := by decide +kernel
theorem dX8_year_23 : decode cX8_year 23 = .ok (.iconst 2, 1) := by decide +kernel
theorem dX8_year_24 : decode cX8_year 24 = .ok (.invokestatic 59, 3) := by decide +kernel
theorem dX8_year_27 : decode cX8_year 27 = .ok (.ifCond .ne 6, 3) := by decide +kernel
theorem dX8_year_30 : decode cX8_year 30 = .ok (.bipush (-2), 2) := by decide +kernel
theorem dX8_year_32 : decode cX8_year 32 = .ok (.ireturn, 1) := by decide +kernel
theorem dX8_year_33 : decode cX8_year 33 = .ok (.aload_n 0, 1) := by decide +kernel
theorem dX8_year_34 : decode cX8_year 34 = .ok (.invokevirtual 110, 3) := by decide +kernel
theorem dX8_year_37 : decode cX8_year 37 = .ok (.iload_n 1, 1) := by decide +kernel
theorem dX8_year_38 : decode cX8_year 38 = .ok (.istore 4, 2) := by decide +kernel
theorem dX8_year_40 : decode cX8_year 40 = .ok (.iconst 0, 1) := by decide +kernel
theorem dX8_year_41 : decode cX8_year 41 = .ok (.istore 5, 2) := by decide +kernel
theorem dX8_year_43 : decode cX8_year 43 = .ok (.iload 5, 2) := by decide +kernel
theorem dX8_year_45 : decode cX8_year 45 = .ok (.iload_n 2, 1) := by decide +kernel
theorem dX8_year_46 : decode cX8_year 46 = .ok (.if_icmp .ge 137, 3) := by decide +kernel
theorem dX8_year_49 : decode cX8_year 49 = .ok (.bipush 75, 2) := by decide +kernel
theorem dX8_year_51 : decode cX8_year 51 = .ok (.iload 4, 2) := by decide +kernel
theorem dX8_year_53 : decode cX8_year 53 = .ok (.imul, 1) := by decide +kernel
theorem dX8_year_54 : decode cX8_year 54 = .ok (.bipush 74, 2) := by decide +kernel
theorem dX8_year_56 : decode cX8_year 56 = .ok (.iadd, 1) := by decide +kernel
theorem dX8_year_57 : decode cX8_year 57 = .ok (.ldc 184, 2) := by decide +kernel
theorem dX8_year_59 : decode cX8_year 59 = .ok (.irem, 1) := by decide +kernel
theorem dX8_year_60 : decode cX8_year 60 = .ok (.istore 4, 2) := by decide +kernel
theorem dX8_year_62 : decode cX8_year 62 = .ok (.iload 4, 2) := by decide +kernel
theorem dX8_year_64 : decode cX8_year 64 = .ok (.bipush 8, 2) := by decide +kernel
theorem dX8_year_66 : decode cX8_year 66 = .ok (.irem, 1) := by decide +kernel
theorem dX8_year_67 : decode cX8_year 67 = .ok (.istore 6, 2) := by decide +kernel
theorem dX8_year_69 : decode cX8_year 69 = .ok (.iload 4, 2) := by decide +kernel
theorem dX8_year_71 : decode cX8_year 71 = .ok (.bipush 8, 2) := by decide +kernel
theorem dX8_year_73 : decode cX8_year 73 = .ok (.idiv, 1) := by decide +kernel
theorem dX8_year_74 : decode cX8_year 74 = .ok (.bipush 8, 2) := by decide +kernel
theorem dX8_year_76 : decode cX8_year 76 = .ok (.irem, 1) := by decide +kernel
theorem dX8_year_77 : decode cX8_year 77 = .ok (.istore 7, 2) := by decide +kernel
theorem dX8_year_79 : decode cX8_year 79 = .ok (.iload 4, 2) := by decide +kernel
theorem dX8_year_81 : decode cX8_year 81 = .ok (.bipush 64, 2) := by decide +kernel
theorem dX8_year_83 : decode cX8_year 83 = .ok (.idiv, 1) := by decide +kernel
theorem dX8_year_84 : decode cX8_year 84 = .ok (.istore 8, 2) := by decide +kernel
theorem dX8_year_86 : decode cX8_year 86 = .ok (.iload 7, 2) := by decide +kernel
theorem dX8_year_88 : decode cX8_year 88 = .ok (.iconst 3, 1) := by decide +kernel
theorem dX8_year_89 : decode cX8_year 89 = .ok (.if_icmp .ge 18, 3) := by decide +kernel
theorem dX8_year_92 : decode cX8_year 92 = .ok (.aload_n 0, 1) := by decide +kernel
theorem dX8_year_93 : decode cX8_year 93 = .ok (.iload 6, 2) := by decide +kernel
theorem dX8_year_95 : decode cX8_year 95 = .ok (.iload 8, 2) := by decide +kernel
theorem dX8_year_97 : decode cX8_year 97 = .ok (.bipush 24, 2) := by decide +kernel
theorem dX8_year_99 : decode cX8_year 99 = .ok (.irem, 1) := by decide +kernel
theorem dX8_year_100 : decode cX8_year 100 = .ok (.invokevirtual 132, 3) := by decide +kernel
theorem dX8_year_103 : decode cX8_year 103 = .ok (.pop, 1) := by decide +kernel
theorem dX8_year_104 : decode cX8_year 104 = .ok (.goto 73, 3) := by decide +kernel
theorem dX8_year_107 : decode cX8_year 107 = .ok (.iload 7, 2) := by decide +kernel
theorem dX8_year_109 : decode cX8_year 109 = .ok (.iconst 3, 1) := by decide +kernel
theorem dX8_year_110 : decode cX8_year 110 = .ok (.if_icmp .ne 13, 3) := by decide +kernel
theorem dX8_year_113 : decode cX8_year 113 = .ok (.aload_n 0, 1) := by decide +kernel
theorem dX8_year_114 : decode cX8_year 114 = .ok (.iload 6, 2) := by decide +kernel
theorem dX8_year_116 : decode cX8_year 116 = .ok (.invokevirtual 125, 3) := by decide +kernel
theorem dX8_year_119 : decode cX8_year 119 = .ok (.pop, 1) := by decide +kernel
theorem dX8_year_120 : decode cX8_year 120 = .ok (.goto 57, 3) := by decide +kernel
theorem dX8_year_123 : decode cX8_year 123 = .ok (.iload 7, 2) := by decide +kernel
theorem dX8_year_125 : decode cX8_year 125 = .ok (.bipush 6, 2) := by decide +kernel
theorem dX8_year_127 : decode cX8_year 127 = .ok (.if_icmp .ge 18, 3) := by decide +kernel
theorem dX8_year_130 : decode cX8_year 130 = .ok (.aload_n 0, 1) := by decide +kernel
theorem dX8_year_131 : decode cX8_year 131 = .ok (.iload 6, 2) := by decide +kernel
theorem dX8_year_133 : decode cX8_year 133 = .ok (.iload 8, 2) := by decide +kernel
theorem dX8_year_135 : decode cX8_year 135 = .ok (.bipush 10, 2) := by decide +kernel
theorem dX8_year_137 : decode cX8_year 137 = .ok (.irem, 1) := by decide +kernel
theorem dX8_year_138 : decode cX8_year 138 = .ok (.invokevirtual 128, 3) := by decide +kernel
theorem dX8_year_141 : decode cX8_year 141 = .ok (.pop, 1) := by decide +kernel
theorem dX8_year_142 : decode cX8_year 142 = .ok (.goto 35, 3) := by decide +kernel
theorem dX8_year_145 : decode cX8_year 145 = .ok (.iload 7, 2) := by decide +kernel
theorem dX8_year_147 : decode cX8_year 147 = .ok (.bipush 6, 2) := by decide +kernel
theorem dX8_year_149 : decode cX8_year 149 = .ok (.if_icmp .ne 23, 3) := by decide +kernel
theorem dX8_year_152 : decode cX8_year 152 = .ok (.aload_n 0, 1) := by decide +kernel
theorem dX8_year_153 : decode cX8_year 153 = .ok (.getfield 13, 3) := by decide +kernel
theorem dX8_year_156 : decode cX8_year 156 = .ok (.bipush 34, 2) := by decide +kernel
theorem dX8_year_158 : decode cX8_year 158 = .ok (.dup2, 1) := by decide +kernel
theorem dX8_year_159 : decode cX8_year 159 = .ok (.iaload, 1) := by decide +kernel
theorem dX8_year_160 : decode cX8_year 160 = .ok (.iconst 1, 1) := by decide +kernel
theorem dX8_year_161 : decode cX8_year 161 = .ok (.iload 8, 2) := by decide +kernel
theorem dX8_year_163 : decode cX8_year 163 = .ok (.bipush 10, 2) := by decide +kernel
theorem dX8_year_165 : decode cX8_year 165 = .ok (.irem, 1) := by decide +kernel
theorem dX8_year_166 : decode cX8_year 166 = .ok (.ishl, 1) := by decide +kernel
theorem dX8_year_167 : decode cX8_year 167 = .ok (.ixor, 1) := by decide +kernel
theorem dX8_year_168 : decode cX8_year 168 = .ok (.iastore, 1) := by decide +kernel
theorem dX8_year_169 : decode cX8_year 169 = .ok (.goto 8, 3) := by decide +kernel
theorem dX8_year_172 : decode cX8_year 172 = .ok (.aload_n 0, 1) := by decide +kernel
theorem dX8_year_173 : decode cX8_year 173 = .ok (.invokevirtual 122, 3) := by decide +kernel
theorem dX8_year_176 : decode cX8_year 176 = .ok (.pop, 1) := by decide +kernel
theorem dX8_year_177 : decode cX8_year 177 = .ok (.iinc 5 1, 3) := by decide +kernel
theorem dX8_year_180 : decode cX8_year 180 = .ok (.goto (-137), 3) := by decide +kernel
theorem dX8_year_183 : decode cX8_year 183 = .ok (.iconst 0, 1) := by decide +kernel
theorem dX8_year_184 : decode cX8_year 184 = .ok (.istore 5, 2) := by decide +kernel
theorem dX8_year_186 : decode cX8_year 186 = .ok (.iconst 0, 1) := by decide +kernel
theorem dX8_year_187 : decode cX8_year 187 = .ok (.istore 6, 2) := by decide +kernel
theorem dX8_year_189 : decode cX8_year 189 = .ok (.iload 6, 2) := by decide +kernel
theorem dX8_year_191 : decode cX8_year 191 = .ok (.bipush 8, 2) := by decide +kernel
theorem dX8_year_193 : decode cX8_year 193 = .ok (.if_icmp .ge 41, 3) := by decide +kernel
theorem dX8_year_196 : decode cX8_year 196 = .ok (.iload 5, 2) := by decide +kernel
theorem dX8_year_198 : decode cX8_year 198 = .ok (.aload_n 0, 1) := by decide +kernel
theorem dX8_year_199 : decode cX8_year 199 = .ok (.getfield 63, 3) := by decide +kernel
theorem dX8_year_202 : decode cX8_year 202 = .ok (.iload 6, 2) := by decide +kernel
theorem dX8_year_204 : decode cX8_year 204 = .ok (.invokestatic 67, 3) := by decide +kernel
theorem dX8_year_207 : decode cX8_year 207 = .ok (.ifCond .eq 17, 3) := by decide +kernel
theorem dX8_year_210 : decode cX8_year 210 = .ok (.aload_n 0, 1) := by decide +kernel
theorem dX8_year_211 : decode cX8_year 211 = .ok (.getfield 13, 3) := by decide +kernel
theorem dX8_year_214 : decode cX8_year 214 = .ok (.iload 6, 2) := by decide +kernel
theorem dX8_year_216 : decode cX8_year 216 = .ok (.iaload, 1) := by decide +kernel
theorem dX8_year_217 : decode cX8_year 217 = .ok (.ifCond .lt 7, 3) := by decide +kernel
theorem dX8_year_220 : decode cX8_year 220 = .ok (.iconst 1, 1) := by decide +kernel
theorem dX8_year_221 : decode cX8_year 221 = .ok (.goto 4, 3) := by decide +kernel
theorem dX8_year_224 : decode cX8_year 224 = .ok (.iconst 0, 1) := by decide +kernel
theorem dX8_year_225 : decode cX8_year 225 = .ok (.iadd, 1) := by decide +kernel
theorem dX8_year_226 : decode cX8_year 226 = .ok (.istore 5, 2) := by decide +kernel
theorem dX8_year_228 : decode cX8_year 228 = .ok (.iinc 6 1, 3) := by decide +kernel
theorem dX8_year_231 : decode cX8_year 231 = .ok (.goto (-42), 3) := by decide +kernel
theorem dX8_year_234 : decode cX8_year 234 = .ok (.iload_n 3, 1) := by decide +kernel
theorem dX8_year_235 : decode cX8_year 235 = .ok (.ifCond .ne 10, 3) := by decide +kernel
theorem dX8_year_238 : decode cX8_year 238 = .ok (.aload_n 0, 1) := by decide +kernel
theorem dX8_year_239 : decode cX8_year 239 = .ok (.invokevirtual 141, 3) := by decide +kernel
theorem dX8_year_242 : decode cX8_year 242 = .ok (.goto 20, 3) := by decide +kernel
theorem dX8_year_245 : decode cX8_year 245 = .ok (.iload_n 3, 1) := by decide +kernel
theorem dX8_year_246 : decode cX8_year 246 = .ok (.iconst 1, 1) := by decide +kernel
theorem dX8_year_247 : decode cX8_year 247 = .ok (.if_icmp .ne 13, 3) := by decide +kernel
theorem dX8_year_250 : decode cX8_year 250 = .ok (.aload_n 0, 1) := by decide +kernel
theorem dX8_year_251 : decode cX8_year 251 = .ok (.invokevirtual 116, 3) := by decide +kernel
theorem dX8_year_254 : decode cX8_year 254 = .ok (.invokestatic 75, 3) := by decide +kernel
theorem dX8_year_257 : decode cX8_year 257 = .ok (.goto 5, 3) := by decide +kernel
theorem dX8_year_260 : decode cX8_year 260 = .ok (.iload 5, 2) := by decide +kernel
theorem dX8_year_262 : decode cX8_year 262 = .ok (.ireturn, 1) := by decide +kernel
set_option maxRecDepth 20000 in
theorem ggX8_image_X8_in : GoodIn wsX8_image wsX8_in := goodIn_r _ [16] (by decide +kernel) (by decide +kernel)
set_option maxRecDepth 20000 in
theorem gX8_image_X8_in : GoodIn wsX8_image (va_wsS RX8 59 yX8_in wsX8_in) := goodIn_app (goodIn_of _ (by decide +kernel)) ggX8_image_X8_in
theorem dX8_image_0 : decode cX8_image 0 = .ok (.iload_n 1, 1) := by decide +kernel
theorem dX8_image_1 : decode cX8_image 1 = .ok (.iconst 0, 1) := by decide +kernel
theorem dX8_image_2 : decode cX8_image 2 = .ok (.iconst 1, 1) := by decide +kernel
theorem dX8_image_3 : decode cX8_image 3 = .ok (.invokestatic 59, 3) := by decide +kernel
theorem dX8_image_6 : decode cX8_image 6 = .ok (.ifCond .ne 6, 3) := by decide +kernel
theorem dX8_image_9 : decode cX8_image 9 = .ok (.bipush (-2), 2) := by decide +kernel
theorem dX8_image_11 : decode cX8_image 11 = .ok (.ireturn, 1) := by decide +kernel
theorem dX8_image_12 : decode cX8_image 12 = .ok (.bipush 110, 2) := by decide +kernel
theorem dX8_image_14 : decode cX8_image 14 = .ok (.iload_n 1, 1) := by decide +kernel
theorem dX8_image_15 : decode cX8_image 15 = .ok (.imul, 1) := by decide +kernel
theorem dX8_image_16 : decode cX8_image 16 = .ok (.istore_n 2, 1) := by decide +kernel
theorem dX8_image_17 : decode cX8_image 17 = .ok (.iconst 0, 1) := by decide +kernel
theorem dX8_image_18 : decode cX8_image 18 = .ok (.istore_n 3, 1) := by decide +kernel
theorem dX8_image_19 : decode cX8_image 19 = .ok (.iload_n 3, 1) := by decide +kernel
theorem dX8_image_20 : decode cX8_image 20 = .ok (.bipush 36, 2) := by decide +kernel
theorem dX8_image_22 : decode cX8_image 22 = .ok (.if_icmp .ge 23, 3) := by decide +kernel
theorem dX8_image_25 : decode cX8_image 25 = .ok (.aload_n 0, 1) := by decide +kernel
theorem dX8_image_26 : decode cX8_image 26 = .ok (.getfield 53, 3) := by decide +kernel
theorem dX8_image_29 : decode cX8_image 29 = .ok (.iload_n 2, 1) := by decide +kernel
theorem dX8_image_30 : decode cX8_image 30 = .ok (.iload_n 3, 1) := by decide +kernel
theorem dX8_image_31 : decode cX8_image 31 = .ok (.iadd, 1) := by decide +kernel
theorem dX8_image_32 : decode cX8_image 32 = .ok (.aload_n 0, 1) := by decide +kernel
theorem dX8_image_33 : decode cX8_image 33 = .ok (.getfield 7, 3) := by decide +kernel
theorem dX8_image_36 : decode cX8_image 36 = .ok (.iload_n 3, 1) := by decide +kernel
theorem dX8_image_37 : decode cX8_image 37 = .ok (.iaload, 1) := by decide +kernel
theorem dX8_image_38 : decode cX8_image 38 = .ok (.iastore, 1) := by decide +kernel
theorem dX8_image_39 : decode cX8_image 39 = .ok (.iinc 3 1, 3) := by decide +kernel
theorem dX8_image_42 : decode cX8_image 42 = .ok (.goto (-23), 3) := by decide +kernel
theorem dX8_image_45 : decode cX8_image 45 = .ok (.iconst 0, 1) := by decide +kernel
theorem dX8_image_46 : decode cX8_image 46 = .ok (.istore_n 3, 1) := by decide +kernel
theorem dX8_image_47 : decode cX8_image 47 = .ok (.iload_n 3, 1) := by decide +kernel
theorem dX8_image_48 : decode cX8_image 48 = .ok (.bipush 8, 2) := by decide +kernel
theorem dX8_image_50 : decode cX8_image 50 = .ok (.if_icmp .ge 60, 3) := by decide +kernel
theorem dX8_image_53 : decode cX8_image 53 = .ok (.aload_n 0, 1) := by decide +kernel
theorem dX8_image_54 : decode cX8_image 54 = .ok (.getfield 53, 3) := by decide +kernel
theorem dX8_image_57 : decode cX8_image 57 = .ok (.iload_n 2, 1) := by decide +kernel
theorem dX8_image_58 : decode cX8_image 58 = .ok (.bipush 36, 2) := by decide +kernel
theorem dX8_image_60 : decode cX8_image 60 = .ok (.iadd, 1) := by decide +kernel
theorem dX8_image_61 : decode cX8_image 61 = .ok (.iload_n 3, 1) := by decide +kernel
theorem dX8_image_62 : decode cX8_image 62 = .ok (.iadd, 1) := by decide +kernel
theorem dX8_image_63 : decode cX8_image 63 = .ok (.aload_n 0, 1) := by decide +kernel
theorem dX8_image_64 : decode cX8_image 64 = .ok (.getfield 16, 3) := by decide +kernel
theorem dX8_image_67 : decode cX8_image 67 = .ok (.iload_n 3, 1) := by decide +kernel
theorem dX8_image_68 : decode cX8_image 68 = .ok (.iaload, 1) := by decide +kernel
theorem dX8_image_69 : decode cX8_image 69 = .ok (.iastore, 1) := by decide +kernel
theorem dX8_image_70 : decode cX8_image 70 = .ok (.aload_n 0, 1) := by decide +kernel
theorem dX8_image_71 : decode cX8_image 71 = .ok (.getfield 53, 3) := by decide +kernel
theorem dX8_image_74 : decode cX8_image 74 = .ok (.iload_n 2, 1) := by decide +kernel
theorem dX8_image_75 : decode cX8_image 75 = .ok (.bipush 44, 2) := by decide +kernel
theorem dX8_image_77 : decode cX8_image 77 = .ok (.iadd, 1) := by decide +kernel
theorem dX8_image_78 : decode cX8_image 78 = .ok (.iload_n 3, 1) := by decide +kernel
theorem dX8_image_79 : decode cX8_image 79 = .ok (.iadd, 1) := by decide +kernel
theorem dX8_image_80 : decode cX8_image 80 = .ok (.aload_n 0, 1) := by decide +kernel
theorem dX8_image_81 : decode cX8_image 81 = .ok (.getfield 19, 3) := by decide +kernel
theorem dX8_image_84 : decode cX8_image 84 = .ok (.iload_n 3, 1) := by decide +kernel
theorem dX8_image_85 : decode cX8_image 85 = .ok (.iaload, 1) := by decide +kernel
theorem dX8_image_86 : decode cX8_image 86 = .ok (.iastore, 1) := by decide +kernel
theorem dX8_image_87 : decode cX8_image 87 = .ok (.aload_n 0, 1) := by decide +kernel
theorem dX8_image_88 : decode cX8_image 88 = .ok (.getfield 53, 3) := by decide +kernel
theorem dX8_image_91 : decode cX8_image 91 = .ok (.iload_n 2, 1) := by decide +kernel
theorem dX8_image_92 : decode cX8_image 92 = .ok (.bipush 52, 2) := by decide +kernel
theorem dX8_image_94 : decode cX8_image 94 = .ok (.iadd, 1) := by decide +kernel
theorem dX8_image_95 : decode cX8_image 95 = .ok (.iload_n 3, 1) := by decide +kernel
theorem dX8_image_96 : decode cX8_image 96 = .ok (.iadd, 1) := by decide +kernel
theorem dX8_image_97 : decode cX8_image 97 = .ok (.aload_n 0, 1) := by decide +kernel
theorem dX8_image_98 : decode cX8_image 98 = .ok (.getfield 22, 3) := by decide +kernel
theorem dX8_image_101 : decode cX8_image 101 = .ok (.iload_n 3, 1) := by decide +kernel
theorem dX8_image_102 : decode cX8_image 102 = .ok (.iaload, 1) := by decide +kernel
theorem dX8_image_103 : decode cX8_image 103 = .ok (.iastore, 1) := by decide +kernel
theorem dX8_image_104 : decode cX8_image 104 = .ok (.iinc 3 1, 3) := by decide +kernel
theorem dX8_image_107 : decode cX8_image 107 = .ok (.goto (-60), 3) := by decide +kernel
theorem dX8_image_110 : decode cX8_image 110 = .ok (.iconst 0, 1) := by decide +kernel
theorem dX8_image_111 : decode cX8_image 111 = .ok (.istore_n 3, 1) := by decide +kernel
theorem dX8_image_112 : decode cX8_image 112 = .ok (.iload_n 3, 1) := by decide +kernel
theorem dX8_image_113 : decode cX8_image 113 = .ok (.bipush 10, 2) := by decide +kernel
theorem dX8_image_115 : decode cX8_image 115 = .ok (.if_icmp .ge 43, 3) := by decide +kernel
theorem dX8_image_118 : decode cX8_image 118 = .ok (.aload_n 0, 1) := by decide +kernel
theorem dX8_image_119 : decode cX8_image 119 = .ok (.getfield 53, 3) := by decide +kernel
theorem dX8_image_122 : decode cX8_image 122 = .ok (.iload_n 2, 1) := by decide +kernel
theorem dX8_image_123 : decode cX8_image 123 = .ok (.bipush 60, 2) := by decide +kernel
theorem dX8_image_125 : decode cX8_image 125 = .ok (.iadd, 1) := by decide +kernel
theorem dX8_image_126 : decode cX8_image 126 = .ok (.iload_n 3, 1) := by decide +kernel
theorem dX8_image_127 : decode cX8_image 127 = .ok (.iadd, 1) := by decide +kernel
theorem dX8_image_128 : decode cX8_image 128 = .ok (.aload_n 0, 1) := by decide +kernel
theorem dX8_image_129 : decode cX8_image 129 = .ok (.getfield 25, 3) := by decide +kernel
theorem dX8_image_132 : decode cX8_image 132 = .ok (.iload_n 3, 1) := by decide +kernel
theorem dX8_image_133 : decode cX8_image 133 = .ok (.iaload, 1) := by decide +kernel
theorem dX8_image_134 : decode cX8_image 134 = .ok (.iastore, 1) := by decide +kernel
theorem dX8_image_135 : decode cX8_image 135 = .ok (.aload_n 0, 1) := by decide +kernel
theorem dX8_image_136 : decode cX8_image 136 = .ok (.getfield 53, 3) := by decide +kernel
theorem dX8_image_139 : decode cX8_image 139 = .ok (.iload_n 2, 1) := by decide +kernel
theorem dX8_image_140 : decode cX8_image 140 = .ok (.bipush 70, 2) := by decide +kernel
theorem dX8_image_142 : decode cX8_image 142 = .ok (.iadd, 1) := by decide +kernel
theorem dX8_image_143 : decode cX8_image 143 = .ok (.iload_n 3, 1) := by decide +kernel
theorem dX8_image_144 : decode cX8_image 144 = .ok (.iadd, 1) := by decide +kernel
theorem dX8_image_145 : decode cX8_image 145 = .ok (.aload_n 0, 1) := by decide +kernel
theorem dX8_image_146 : decode cX8_image 146 = .ok (.getfield 28, 3) := by decide +kernel
theorem dX8_image_149 : decode cX8_image 149 = .ok (.iload_n 3, 1) := by decide +kernel
theorem dX8_image_150 : decode cX8_image 150 = .ok (.iaload, 1) := by decide +kernel
theorem dX8_image_151 : decode cX8_image 151 = .ok (.iastore, 1) := by decide +kernel
theorem dX8_image_152 : decode cX8_image 152 = .ok (.iinc 3 1, 3) := by decide +kernel
theorem dX8_image_155 : decode cX8_image 155 = .ok (.goto (-43), 3) := by decide +kernel
theorem dX8_image_158 : decode cX8_image 158 = .ok (.iconst 0, 1) := by decide +kernel
theorem dX8_image_159 : decode cX8_image 159 = .ok (.istore_n 3, 1) := by decide +kernel
theorem dX8_image_160 : decode cX8_image 160 = .ok (.iload_n 3, 1) := by decide +kernel
theorem dX8_image_161 : decode cX8_image 161 = .ok (.bipush 16, 2) := by decide +kernel
theorem dX8_image_163 : decode cX8_image 163 = .ok (.if_icmp .ge 26, 3) := by decide +kernel
theorem dX8_image_166 : decode cX8_image 166 = .ok (.aload_n 0, 1) := by decide +kernel
theorem dX8_image_167 : decode cX8_image 167 = .ok (.getfield 53, 3) := by decide +kernel
theorem dX8_image_170 : decode cX8_image 170 = .ok (.iload_n 2, 1) := by decide +kernel
theorem dX8_image_171 : decode cX8_image 171 = .ok (.bipush 80, 2) := by decide +kernel
theorem dX8_image_173 : decode cX8_image 173 = .ok (.iadd, 1) := by decide +kernel
theorem dX8_image_174 : decode cX8_image 174 = .ok (.iload_n 3, 1) := by decide +kernel
theorem dX8_image_175 : decode cX8_image 175 = .ok (.iadd, 1) := by decide +kernel
theorem dX8_image_176 : decode cX8_image 176 = .ok (.aload_n 0, 1) := by decide +kernel
theorem dX8_image_177 : decode cX8_image 177 = .ok (.getfield 31, 3) := by decide +kernel
theorem dX8_image_180 : decode cX8_image 180 = .ok (.iload_n 3, 1) := by decide +kernel
theorem dX8_image_181 : decode cX8_image 181 = .ok (.iaload, 1) := by decide +kernel
theorem dX8_image_182 : decode cX8_image 182 = .ok (.iastore, 1) := by decide +kernel
theorem dX8_image_183 : decode cX8_image 183 = .ok (.iinc 3 1, 3) := by decide +kernel
theorem dX8_image_186 : decode cX8_image 186 = .ok (.goto (-26), 3) := by decide +kernel
theorem dX8_image_189 : decode cX8_image 189 = .ok (.aload_n 0, 1) := by decide +kernel
theorem dX8_image_190 : decode cX8_image 190 = .ok (.getfield 53, 3) := by decide +kernel
theorem dX8_image_193 : decode cX8_image 193 = .ok (.iload_n 2, 1) := by decide +kernel
theorem dX8_image_194 : decode cX8_image 194 = .ok (.bipush 100, 2) := by decide +kernel
theorem dX8_image_196 : decode cX8_image 196 = .ok (.iadd, 1) := by decide +kernel
theorem dX8_image_197 : decode cX8_image 197 = .ok (.aload_n 0, 1) := by decide +kernel
theorem dX8_image_198 : decode cX8_image 198 = .ok (.getfield 63, 3) := by decide +kernel
theorem dX8_image_201 : decode cX8_image 201 = .ok (.iastore, 1) := by decide +kernel
theorem dX8_image_202 : decode cX8_image 202 = .ok (.aload_n 0, 1) := by decide +kernel
theorem dX8_image_203 : decode cX8_image 203 = .ok (.getfield 53, 3) := by decide +kernel
theorem dX8_image_206 : decode cX8_image 206 = .ok (.iload_n 2, 1) := by decide +kernel
theorem dX8_image_207 : decode cX8_image 207 = .ok (.bipush 101, 2) := by decide +kernel
theorem dX8_image_209 : decode cX8_image 209 = .ok (.iadd, 1) := by decide +kernel
theorem dX8_image_210 : decode cX8_image 210 = .ok (.aload_n 0, 1) := by decide +kernel
theorem dX8_image_211 : decode cX8_image 211 = .ok (.getfield 79, 3) := by decide +kernel
theorem dX8_image_214 : decode cX8_image 214 = .ok (.iastore, 1) := by decide +kernel
theorem dX8_image_215 : decode cX8_image 215 = .ok (.aload_n 0, 1) := by decide +kernel
theorem dX8_image_216 : decode cX8_image 216 = .ok (.getfield 53, 3) := by decide +kernel
theorem dX8_image_219 : decode cX8_image 219 = .ok (.iload_n 2, 1) := by decide +kernel
theorem dX8_image_220 : decode cX8_image 220 = .ok (.bipush 102, 2) := by decide +kernel
theorem dX8_image_222 : decode cX8_image 222 = .ok (.iadd, 1) := by decide +kernel
theorem dX8_image_223 : decode cX8_image 223 = .ok (.aload_n 0, 1) := by decide +kernel
theorem dX8_image_224 : decode cX8_image 224 = .ok (.getfield 160, 3) := by decide +kernel
theorem dX8_image_227 : decode cX8_image 227 = .ok (.iastore, 1) := by decide +kernel
theorem dX8_image_228 : decode cX8_image 228 = .ok (.aload_n 0, 1) := by decide +kernel
theorem dX8_image_229 : decode cX8_image 229 = .ok (.getfield 56, 3) := by decide +kernel
theorem dX8_image_232 : decode cX8_image 232 = .ok (.iload_n 1, 1) := by decide +kernel
theorem dX8_image_233 : decode cX8_image 233 = .ok (.iconst 1, 1) := by decide +kernel
theorem dX8_image_234 : decode cX8_image 234 = .ok (.bastore, 1) := by decide +kernel
theorem dX8_image_235 : decode cX8_image 235 = .ok (.iconst 1, 1) := by decide +kernel
theorem dX8_image_236 : decode cX8_image 236 = .ok (.ireturn, 1) := by decide +kernel
set_option maxRecDepth 20000 in
theorem ggX8_restore_X8_in : GoodIn wsX8_restore wsX8_in := goodIn_r _ [16] (by decide +kernel) (by decide +kernel)
set_option maxRecDepth 20000 in
theorem gX8_restore_X8_in : GoodIn wsX8_restore (va_wsS RX8 59 yX8_in wsX8_in) := goodIn_app (goodIn_of _ (by decide +kernel)) ggX8_restore_X8_in
theorem dX8_restore_0 : decode cX8_restore 0 = .ok (.iload_n 1, 1) := by decide +kernel
theorem dX8_restore_1 : decode cX8_restore 1 = .ok (.iconst 0, 1) := by decide +kernel
theorem dX8_restore_2 : decode cX8_restore 2 = .ok (.iconst 1, 1) := by decide +kernel
theorem dX8_restore_3 : decode cX8_restore 3 = .ok (.invokestatic 59, 3) := by decide +kernel
theorem dX8_restore_6 : decode cX8_restore 6 = .ok (.ifCond .ne 6, 3) := by decide +kernel
theorem dX8_restore_9 : decode cX8_restore 9 = .ok (.bipush (-2), 2) := by decide +kernel
theorem dX8_restore_11 : decode cX8_restore 11 = .ok (.ireturn, 1) := by decide +kernel
theorem dX8_restore_12 : decode cX8_restore 12 = .ok (.aload_n 0, 1) := by decide +kernel
theorem dX8_restore_13 : decode cX8_restore 13 = .ok (.getfield 56, 3) := by decide +kernel
theorem dX8_restore_16 : decode cX8_restore 16 = .ok (.iload_n 1, 1) := by decide +kernel
theorem dX8_restore_17 : decode cX8_restore 17 = .ok (.baload, 1) := by decide +kernel
theorem dX8_restore_18 : decode cX8_restore 18 = .ok (.ifCond .ne 6, 3) := by decide +kernel
theorem dX8_restore_21 : decode cX8_restore 21 = .ok (.bipush (-3), 2) := by decide +kernel
theorem dX8_restore_23 : decode cX8_restore 23 = .ok (.ireturn, 1) := by decide +kernel
theorem dX8_restore_24 : decode cX8_restore 24 = .ok (.bipush 110, 2) := by decide +kernel
theorem dX8_restore_26 : decode cX8_restore 26 = .ok (.iload_n 1, 1) := by decide +kernel
theorem dX8_restore_27 : decode cX8_restore 27 = .ok (.imul, 1) := by decide +kernel
theorem dX8_restore_28 : decode cX8_restore 28 = .ok (.istore_n 2, 1) := by decide +kernel
theorem dX8_restore_29 : decode cX8_restore 29 = .ok (.iconst 0, 1) := by decide +kernel
theorem dX8_restore_30 : decode cX8_restore 30 = .ok (.istore_n 3, 1) := by decide +kernel
theorem dX8_restore_31 : decode cX8_restore 31 = .ok (.iload_n 3, 1) := by decide +kernel
theorem dX8_restore_32 : decode cX8_restore 32 = .ok (.bipush 36, 2) := by decide +kernel
theorem dX8_restore_34 : decode cX8_restore 34 = .ok (.if_icmp .ge 23, 3) := by decide +kernel
theorem dX8_restore_37 : decode cX8_restore 37 = .ok (.aload_n 0, 1) := by decide +kernel
theorem dX8_restore_38 : decode cX8_restore 38 = .ok (.getfield 7, 3) := by decide +kernel
theorem dX8_restore_41 : decode cX8_restore 41 = .ok (.iload_n 3, 1) := by decide +kernel
theorem dX8_restore_42 : decode cX8_restore 42 = .ok (.aload_n 0, 1) := by decide +kernel
theorem dX8_restore_43 : decode cX8_restore 43 = .ok (.getfield 53, 3) := by decide +kernel
theorem dX8_restore_46 : decode cX8_restore 46 = .ok (.iload_n 2, 1) := by decide +kernel
theorem dX8_restore_47 : decode cX8_restore 47 = .ok (.iload_n 3, 1) := by decide +kernel
theorem dX8_restore_48 : decode cX8_restore 48 = .ok (.iadd, 1) := by decide +kernel
theorem dX8_restore_49 : decode cX8_restore 49 = .ok (.iaload, 1) := by decide +kernel
theorem dX8_restore_50 : decode cX8_restore 50 = .ok (.iastore, 1) := by decide +kernel
theorem dX8_restore_51 : decode cX8_restore 51 = .ok (.iinc 3 1, 3) := by decide +kernel
theorem dX8_restore_54 : decode cX8_restore 54 = .ok (.goto (-23), 3) := by decide +kernel
theorem dX8_restore_57 : decode cX8_restore 57 = .ok (.iconst 0, 1) := by decide +kernel
theorem dX8_restore_58 : decode cX8_restore 58 = .ok (.istore_n 3, 1) := by decide +kernel
theorem dX8_restore_59 : decode cX8_restore 59 = .ok (.iload_n 3, 1) := by decide +kernel
theorem dX8_restore_60 : decode cX8_restore 60 = .ok (.bipush 8, 2) := by decide +kernel
theorem dX8_restore_62 : decode cX8_restore 62 = .ok (.if_icmp .ge 60, 3) := by decide +kernel
theorem dX8_restore_65 : decode cX8_restore 65 = .ok (.aload_n 0, 1) := by decide +kernel
theorem dX8_restore_66 : decode cX8_restore 66 = .ok (.getfield 16, 3) := by decide +kernel
theorem dX8_restore_69 : decode cX8_restore 69 = .ok (.iload_n 3, 1) := by decide +kernel
theorem dX8_restore_70 : decode cX8_restore 70 = .ok (.aload_n 0, 1) := by decide +kernel
theorem dX8_restore_71 : decode cX8_restore 71 = .ok (.getfield 53, 3) := by decide +kernel
theorem dX8_restore_74 : decode cX8_restore 74 = .ok (.iload_n 2, 1) := by decide +kernel
theorem dX8_restore_75 : decode cX8_restore 75 = .ok (.bipush 36, 2) := by decide +kernel
theorem dX8_restore_77 : decode cX8_restore 77 = .ok (.iadd, 1) := by decide +kernel
theorem dX8_restore_78 : decode cX8_restore 78 = .ok (.iload_n 3, 1) := by decide +kernel
theorem dX8_restore_79 : decode cX8_restore 79 = .ok (.iadd, 1) := by decide +kernel
theorem dX8_restore_80 : decode cX8_restore 80 = .ok (.iaload, 1) := by decide +kernel
theorem dX8_restore_81 : decode cX8_restore 81 = .ok (.iastore, 1) := by decide +kernel
theorem dX8_restore_82 : decode cX8_restore 82 = .ok (.aload_n 0, 1) := by decide +kernel
theorem dX8_restore_83 : decode cX8_restore 83 = .ok (.getfield 19, 3) := by decide +kernel
theorem dX8_restore_86 : decode cX8_restore 86 = .ok (.iload_n 3, 1) := by decide +kernel
theorem dX8_restore_87 : decode cX8_restore 87 = .ok (.aload_n 0, 1) := by decide +kernel
theorem dX8_restore_88 : decode cX8_restore 88 = .ok (.getfield 53, 3) := by decide +kernel
theorem dX8_restore_91 : decode cX8_restore 91 = .ok (.iload_n 2, 1) := by decide +kernel
theorem dX8_restore_92 : decode cX8_restore 92 = .ok (.bipush 44, 2) := by decide +kernel
theorem dX8_restore_94 : decode cX8_restore 94 = .ok (.iadd, 1) := by decide +kernel
theorem dX8_restore_95 : decode cX8_restore 95 = .ok (.iload_n 3, 1) := by decide +kernel
theorem dX8_restore_96 : decode cX8_restore 96 = .ok (.iadd, 1) := by decide +kernel
theorem dX8_restore_97 : decode cX8_restore 97 = .ok (.iaload, 1) := by decide +kernel
theorem dX8_restore_98 : decode cX8_restore 98 = .ok (.iastore, 1) := by decide +kernel
theorem dX8_restore_99 : decode cX8_restore 99 = .ok (.aload_n 0, 1) := by decide +kernel
theorem dX8_restore_100 : decode cX8_restore 100 = .ok (.getfield 22, 3) := by decide +kernel
theorem dX8_restore_103 : decode cX8_restore 103 = .ok (.iload_n 3, 1) := by decide +kernel
theorem dX8_restore_104 : decode cX8_restore 104 = .ok (.aload_n 0, 1) := by decide +kernel
theorem dX8_restore_105 : decode cX8_restore 105 = .ok (.getfield 53, 3) := by decide +kernel
theorem dX8_restore_108 : decode cX8_restore 108 = .ok (.iload_n 2, 1) := by decide +kernel
theorem dX8_restore_109 : decode cX8_restore 109 = .ok (.bipush 52, 2) := by decide +kernel
theorem dX8_restore_111 : decode cX8_restore 111 = .ok (.iadd, 1) := by decide +kernel
theorem dX8_restore_112 : decode cX8_restore 112 = .ok (.iload_n 3, 1) := by decide +kernel
theorem dX8_restore_113 : decode cX8_restore 113 = .ok (.iadd, 1) := by decide +kernel
theorem dX8_restore_114 : decode cX8_restore 114 = .ok (.iaload, 1) := by decide +kernel
theorem dX8_restore_115 : decode cX8_restore 115 = .ok (.iastore, 1) := by decide +kernel
theorem dX8_restore_116 : decode cX8_restore 116 = .ok (.iinc 3 1, 3) := by decide +kernel
theorem dX8_restore_119 : decode cX8_restore 119 = .ok (.goto (-60), 3) := by decide +kernel
theorem dX8_restore_122 : decode cX8_restore 122 = .ok (.iconst 0, 1) := by decide +kernel
theorem dX8_restore_123 : decode cX8_restore 123 = .ok (.istore_n 3, 1) := by decide +kernel
theorem dX8_restore_124 : decode cX8_restore 124 = .ok (.iload_n 3, 1) := by decide +kernel
theorem dX8_restore_125 : decode cX8_restore 125 = .ok (.bipush 10, 2) := by decide +kernel
theorem dX8_restore_127 : decode cX8_restore 127 = .ok (.if_icmp .ge 43, 3) := by decide +kernel
theorem dX8_restore_130 : decode cX8_restore 130 = .ok (.aload_n 0, 1) := by decide +kernel
theorem dX8_restore_131 : decode cX8_restore 131 = .ok (.getfield 25, 3) := by decide +kernel
theorem dX8_restore_134 : decode cX8_restore 134 = .ok (.iload_n 3, 1) := by decide +kernel
theorem dX8_restore_135 : decode cX8_restore 135 = .ok (.aload_n 0, 1) := by decide +kernel
theorem dX8_restore_136 : decode cX8_restore 136 = .ok (.getfield 53, 3) := by decide +kernel
theorem dX8_restore_139 : decode cX8_restore 139 = .ok (.iload_n 2, 1) := by decide +kernel
theorem dX8_restore_140 : decode cX8_restore 140 = .ok (.bipush 60, 2) := by decide +kernel
theorem dX8_restore_142 : decode cX8_restore 142 = .ok (.iadd, 1) := by decide +kernel
theorem dX8_restore_143 : decode cX8_restore 143 = .ok (.iload_n 3, 1) := by decide +kernel
theorem dX8_restore_144 : decode cX8_restore 144 = .ok (.iadd, 1) := by decide +kernel
theorem dX8_restore_145 : decode cX8_restore 145 = .ok (.iaload, 1) := by decide +kernel
theorem dX8_restore_146 : decode cX8_restore 146 = .ok (.iastore, 1) := by decide +kernel
theorem dX8_restore_147 : decode cX8_restore 147 = .ok (.aload_n 0, 1) := by decide +kernel
theorem dX8_restore_148 : decode cX8_restore 148 = .ok (.getfield 28, 3) := by decide +kernel
theorem dX8_restore_151 : decode cX8_restore 151 = .ok (.iload_n 3, 1) := by decide +kernel
theorem dX8_restore_152 : decode cX8_restore 152 = .ok (.aload_n 0, 1) := by decide +kernel
theorem dX8_restore_153 : decode cX8_restore 153 = .ok (.getfield 53, 3) := by decide +kernel
theorem dX8_restore_156 : decode cX8_restore 156 = .ok (.iload_n 2, 1) := by decide +kernel
theorem dX8_restore_157 : decode cX8_restore 157 = .ok (.bipush 70, 2) := by decide +kernel
theorem dX8_restore_159 : decode cX8_restore 159 = .ok (.iadd, 1) := by decide +kernel
theorem dX8_restore_160 : decode cX8_restore 160 = .ok (.iload_n 3, 1) := by decide +kernel
theorem dX8_restore_161 : decode cX8_restore 161 = .ok (.iadd, 1) := by decide +kernel
theorem dX8_restore_162 : decode cX8_restore 162 = .ok (.iaload, 1) := by decide +kernel
theorem dX8_restore_163 : decode cX8_restore 163 = .ok (.iastore, 1) := by decide +kernel
theorem dX8_restore_164 : decode cX8_restore 164 = .ok (.iinc 3 1, 3) := by decide +kernel
theorem dX8_restore_167 : decode cX8_restore 167 = .ok (.goto (-43), 3) := by decide +kernel
theorem dX8_restore_170 : decode cX8_restore 170 = .ok (.iconst 0, 1) := by decide +kernel
theorem dX8_restore_171 : decode cX8_restore 171 = .ok (.istore_n 3, 1) := by decide +kernel
theorem dX8_restore_172 : decode cX8_restore 172 = .ok (.iload_n 3, 1) := by decide +kernel
theorem dX8_restore_173 : decode cX8_restore 173 = .ok (.bipush 16, 2) := by decide +kernel
theorem dX8_restore_175 : decode cX8_restore 175 = .ok (.if_icmp .ge 26, 3) := by decide +kernel
theorem dX8_restore_178 : decode cX8_restore 178 = .ok (.aload_n 0, 1) := by decide +kernel
theorem dX8_restore_179 : decode cX8_restore 179 = .ok (.getfield 31, 3) := by decide +kernel
theorem dX8_restore_182 : decode cX8_restore 182 = .ok (.iload_n 3, 1) := by decide +kernel
theorem dX8_restore_183 : decode cX8_restore 183 = .ok (.aload_n 0, 1) := by decide +kernel
theorem dX8_restore_184 : decode cX8_restore 184 = .ok (.getfield 53, 3) := by decide +kernel
theorem dX8_restore_187 : decode cX8_restore 187 = .ok (.iload_n 2, 1) := by decide +kernel
theorem dX8_restore_188 : decode cX8_restore 188 = .ok (.bipush 80, 2) := by decide +kernel
theorem dX8_restore_190 : decode cX8_restore 190 = .ok (.iadd, 1) := by decide +kernel
theorem dX8_restore_191 : decode cX8_restore 191 = .ok (.iload_n 3, 1) := by decide +kernel
theorem dX8_restore_192 : decode cX8_restore 192 = .ok (.iadd, 1) := by decide +kernel
theorem dX8_restore_193 : decode cX8_restore 193 = .ok (.iaload, 1) := by decide +kernel
theorem dX8_restore_194 : decode cX8_restore 194 = .ok (.iastore, 1) := by decide +kernel
theorem dX8_restore_195 : decode cX8_restore 195 = .ok (.iinc 3 1, 3) := by decide +kernel
theorem dX8_restore_198 : decode cX8_restore 198 = .ok (.goto (-26), 3) := by decide +kernel
theorem dX8_restore_201 : decode cX8_restore 201 = .ok (.aload_n 0, 1) := by decide +kernel
theorem dX8_restore_202 : decode cX8_restore 202 = .ok (.aload_n 0, 1) := by decide +kernel
theorem dX8_restore_203 : decode cX8_restore 203 = .ok (.getfield 53, 3) := by decide +kernel
theorem dX8_restore_206 : decode cX8_restore 206 = .ok (.iload_n 2, 1) := by decide +kernel
theorem dX8_restore_207 : decode cX8_restore 207 = .ok (.bipush 100, 2) := by decide +kernel
theorem dX8_restore_209 : decode cX8_restore 209 = .ok (.iadd, 1) := by decide +kernel
theorem dX8_restore_210 : decode cX8_restore 210 = .ok (.iaload, 1) := by decide +kernel
theorem dX8_restore_211 : decode cX8_restore 211 = .ok (.putfield 63, 3) := by decide +kernel
theorem dX8_restore_214 : decode cX8_restore 214 = .ok (.aload_n 0, 1) := by decide +kernel
theorem dX8_restore_215 : decode cX8_restore 215 = .ok (.aload_n 0, 1) := by decide +kernel
theorem dX8_restore_216 : decode cX8_restore 216 = .ok (.getfield 53, 3) := by decide +kernel
theorem dX8_restore_219 : decode cX8_restore 219 = .ok (.iload_n 2, 1) := by decide +kernel
theorem dX8_restore_220 : decode cX8_restore 220 = .ok (.bipush 101, 2) := by decide +kernel
theorem dX8_restore_222 : decode cX8_restore 222 = .ok (.iadd, 1) := by decide +kernel
theorem dX8_restore_223 : decode cX8_restore 223 = .ok (.iaload, 1) := by decide +kernel
theorem dX8_restore_224 : decode cX8_restore 224 = .ok (.putfield 79, 3) := by decide +kernel
theorem dX8_restore_227 : decode cX8_restore 227 = .ok (.aload_n 0, 1) := by decide +kernel
theorem dX8_restore_228 : decode cX8_restore 228 = .ok (.aload_n 0, 1) := by decide +kernel
theorem dX8_restore_229 : decode cX8_restore 229 = .ok (.getfield 53, 3) := by decide +kernel
theorem dX8_restore_232 : decode cX8_restore 232 = .ok (.iload_n 2, 1) := by decide +kernel
theorem dX8_restore_233 : decode cX8_restore 233 = .ok (.bipush 102, 2) := by decide +kernel
theorem dX8_restore_235 : decode cX8_restore 235 = .ok (.iadd, 1) := by decide +kernel
theorem dX8_restore_236 : decode cX8_restore 236 = .ok (.iaload, 1) := by decide +kernel
theorem dX8_restore_237 : decode cX8_restore 237 = .ok (.putfield 160, 3) := by decide +kernel
theorem dX8_restore_240 : decode cX8_restore 240 = .ok (.iconst 1, 1) := by decide +kernel
theorem dX8_restore_241 : decode cX8_restore 241 = .ok (.ireturn, 1) := by decide +kernel
set_option maxRecDepth 20000 in
theorem ggX8_toldVoice_X8_isThere : GoodIn wsX8_toldVoice wsX8_isThere := goodIn_r _ [9, 10, 11, 12, 8, 13, 14, 15, 16, 17, 18, 19, 20, 21, 22, 23, 24, 25, 26, 27, 28, 29, 30, 31, 32, 33, 34, 35, 36, 37, 38, 39, 40] (by decide +kernel) (by decide +kernel)
set_option maxRecDepth 20000 in
theorem gX8_toldVoice_X8_isThere : GoodIn wsX8_toldVoice (wsV RX8 82 RX8 yX8_isThere wsX8_isThere) := goodIn_app (goodIn_of _ (by decide +kernel)) ggX8_toldVoice_X8_isThere
theorem dX8_toldVoice_0 : decode cX8_toldVoice 0 = .ok (.aload_n 0, 1) := by decide +kernel
theorem dX8_toldVoice_1 : decode cX8_toldVoice 1 = .ok (.iload_n 1, 1) := by decide +kernel
theorem dX8_toldVoice_2 : decode cX8_toldVoice 2 = .ok (.invokevirtual 82, 3) := by decide +kernel
theorem dX8_toldVoice_5 : decode cX8_toldVoice 5 = .ok (.ifCond .ne 6, 3) := by decide +kernel
theorem dX8_toldVoice_8 : decode cX8_toldVoice 8 = .ok (.bipush (-2), 2) := by decide +kernel
theorem dX8_toldVoice_10 : decode cX8_toldVoice 10 = .ok (.ireturn, 1) := by decide +kernel
theorem dX8_toldVoice_11 : decode cX8_toldVoice 11 = .ok (.iload_n 2, 1) := by decide +kernel
theorem dX8_toldVoice_12 : decode cX8_toldVoice 12 = .ok (.tableswitch 77 0 4 #[36, 43, 50, 60, 67], 36) := by decide +kernel
theorem dX8_toldVoice_48 : decode cX8_toldVoice 48 = .ok (.aload_n 0, 1) := by decide +kernel
theorem dX8_toldVoice_49 : decode cX8_toldVoice 49 = .ok (.getfield 16, 3) := by decide +kernel
theorem dX8_toldVoice_52 : decode cX8_toldVoice 52 = .ok (.iload_n 1, 1) := by decide +kernel
theorem dX8_toldVoice_53 : decode cX8_toldVoice 53 = .ok (.iaload, 1) := by decide +kernel
theorem dX8_toldVoice_54 : decode cX8_toldVoice 54 = .ok (.ireturn, 1) := by decide +kernel
theorem dX8_toldVoice_55 : decode cX8_toldVoice 55 = .ok (.aload_n 0, 1) := by decide +kernel
theorem dX8_toldVoice_56 : decode cX8_toldVoice 56 = .ok (.getfield 19, 3) := by decide +kernel
theorem dX8_toldVoice_59 : decode cX8_toldVoice 59 = .ok (.iload_n 1, 1) := by decide +kernel
theorem dX8_toldVoice_60 : decode cX8_toldVoice 60 = .ok (.iaload, 1) := by decide +kernel
theorem dX8_toldVoice_61 : decode cX8_toldVoice 61 = .ok (.ireturn, 1) := by decide +kernel
theorem dX8_toldVoice_62 : decode cX8_toldVoice 62 = .ok (.aload_n 0, 1) := by decide +kernel
theorem dX8_toldVoice_63 : decode cX8_toldVoice 63 = .ok (.getfield 7, 3) := by decide +kernel
theorem dX8_toldVoice_66 : decode cX8_toldVoice 66 = .ok (.bipush 8, 2) := by decide +kernel
theorem dX8_toldVoice_68 : decode cX8_toldVoice 68 = .ok (.iload_n 1, 1) := by decide +kernel
theorem dX8_toldVoice_69 : decode cX8_toldVoice 69 = .ok (.iadd, 1) := by decide +kernel
theorem dX8_toldVoice_70 : decode cX8_toldVoice 70 = .ok (.iaload, 1) := by decide +kernel
theorem dX8_toldVoice_71 : decode cX8_toldVoice 71 = .ok (.ireturn, 1) := by decide +kernel
theorem dX8_toldVoice_72 : decode cX8_toldVoice 72 = .ok (.aload_n 0, 1) := by decide +kernel
theorem dX8_toldVoice_73 : decode cX8_toldVoice 73 = .ok (.getfield 22, 3) := by decide +kernel
theorem dX8_toldVoice_76 : decode cX8_toldVoice 76 = .ok (.iload_n 1, 1) := by decide +kernel
theorem dX8_toldVoice_77 : decode cX8_toldVoice 77 = .ok (.iaload, 1) := by decide +kernel
theorem dX8_toldVoice_78 : decode cX8_toldVoice 78 = .ok (.ireturn, 1) := by decide +kernel
theorem dX8_toldVoice_79 : decode cX8_toldVoice 79 = .ok (.aload_n 0, 1) := by decide +kernel
theorem dX8_toldVoice_80 : decode cX8_toldVoice 80 = .ok (.getfield 7, 3) := by decide +kernel
theorem dX8_toldVoice_83 : decode cX8_toldVoice 83 = .ok (.bipush 16, 2) := by decide +kernel
theorem dX8_toldVoice_85 : decode cX8_toldVoice 85 = .ok (.iload_n 1, 1) := by decide +kernel
theorem dX8_toldVoice_86 : decode cX8_toldVoice 86 = .ok (.iadd, 1) := by decide +kernel
theorem dX8_toldVoice_87 : decode cX8_toldVoice 87 = .ok (.iaload, 1) := by decide +kernel
theorem dX8_toldVoice_88 : decode cX8_toldVoice 88 = .ok (.ireturn, 1) := by decide +kernel
theorem dX8_toldVoice_89 : decode cX8_toldVoice 89 = .ok (.iload_n 2, 1) := by decide +kernel
theorem dX8_toldVoice_90 : decode cX8_toldVoice 90 = .ok (.iconst 5, 1) := by decide +kernel
theorem dX8_toldVoice_91 : decode cX8_toldVoice 91 = .ok (.if_icmp .ne 12, 3) := by decide +kernel
theorem dX8_toldVoice_94 : decode cX8_toldVoice 94 = .ok (.aload_n 0, 1) := by decide +kernel
theorem dX8_toldVoice_95 : decode cX8_toldVoice 95 = .ok (.getfield 7, 3) := by decide +kernel
theorem dX8_toldVoice_98 : decode cX8_toldVoice 98 = .ok (.iload_n 1, 1) := by decide +kernel
theorem dX8_toldVoice_99 : decode cX8_toldVoice 99 = .ok (.iaload, 1) := by decide +kernel
theorem dX8_toldVoice_100 : decode cX8_toldVoice 100 = .ok (.goto 5, 3) := by decide +kernel
theorem dX8_toldVoice_103 : decode cX8_toldVoice 103 = .ok (.bipush (-2), 2) := by decide +kernel
theorem dX8_toldVoice_105 : decode cX8_toldVoice 105 = .ok (.ireturn, 1) := by decide +kernel
set_option maxRecDepth 20000 in
theorem ggX8_told_X8_isGallery : GoodIn wsX8_told wsX8_isGallery := goodIn_r _ [11, 12, 13, 10, 14] (by decide +kernel) (by decide +kernel)
set_option maxRecDepth 20000 in
theorem gX8_told_X8_isGallery : GoodIn wsX8_told (va_wsS RX8 71 yX8_isGallery wsX8_isGallery) := goodIn_app (goodIn_of _ (by decide +kernel)) ggX8_told_X8_isGallery
set_option maxRecDepth 20000 in
theorem ggX8_told_X8_toldVoice : GoodIn wsX8_told wsX8_toldVoice := goodIn_r _ [18, 19, 20, 2, 21, 22, 23, 24, 10, 25, 5, 12, 13, 14, 26, 27, 28, 56, 57, 58, 59, 60, 61, 62, 63, 64, 65, 66, 67, 68, 69, 70, 71, 72, 73, 74, 75, 76, 77, 78, 79] (by decide +kernel) (by decide +kernel)
set_option maxRecDepth 20000 in
theorem gX8_told_X8_toldVoice : GoodIn wsX8_told (wsV RX8 185 RX8 yX8_toldVoice wsX8_toldVoice) := goodIn_app (goodIn_of _ (by decide +kernel)) ggX8_told_X8_toldVoice
set_option maxRecDepth 20000 in
theorem ggX8_told_X8_asNow : GoodIn wsX8_told wsX8_asNow := goodIn_r _ [32, 33, 2, 34, 35, 56, 57, 58, 59, 60, 61, 62, 63, 64, 65, 66, 67, 68, 69, 70, 71, 72, 73, 74, 75, 76, 77, 78, 79] (by decide +kernel) (by decide +kernel)
set_option maxRecDepth 20000 in
theorem gX8_told_X8_asNow : GoodIn wsX8_told (wsV RX8 110 RX8 yX8_asNow wsX8_asNow) := goodIn_app (goodIn_of _ (by decide +kernel)) ggX8_told_X8_asNow
set_option maxRecDepth 20000 in
theorem ggX8_told_X8_lamps : GoodIn wsX8_told wsX8_lamps := goodIn_r _ [39, 40, 41, 42, 10, 43, 1, 44, 45, 46, 47, 6, 33, 48, 49, 50, 51, 22, 23, 24, 25, 5, 12, 13, 14, 26, 27, 28, 52, 53, 54, 55, 56, 57, 58, 59, 60, 61, 62, 63, 64, 65, 66, 67, 68, 69, 70, 71, 72, 73, 74, 75, 76, 77, 78, 79] (by decide +kernel) (by decide +kernel)
set_option maxRecDepth 20000 in
theorem gX8_told_X8_lamps : GoodIn wsX8_told (wsV RX8 116 RX8 yX8_lamps wsX8_lamps) := goodIn_app (goodIn_of _ (by decide +kernel)) ggX8_told_X8_lamps
theorem dX8_told_0 : decode cX8_told 0 = .ok (.iload_n 1, 1) := by decide +kernel
theorem dX8_told_1 : decode cX8_told 1 = .ok (.bipush 100, 2) := by decide +kernel
theorem dX8_told_3 : decode cX8_told 3 = .ok (.if_icmp .lt 72, 3) := by decide +kernel
theorem dX8_told_6 : decode cX8_told 6 = .ok (.iload_n 1, 1) := by decide +kernel
theorem dX8_told_7 : decode cX8_told 7 = .ok (.bipush 10, 2) := by decide +kernel
theorem dX8_told_9 : decode cX8_told 9 = .ok (.idiv, 1) := by decide +kernel
theorem dX8_told_10 : decode cX8_told 10 = .ok (.bipush 10, 2) := by decide +kernel
theorem dX8_told_12 : decode cX8_told 12 = .ok (.isub, 1) := by decide +kernel
theorem dX8_told_13 : decode cX8_told 13 = .ok (.istore_n 2, 1) := by decide +kernel
theorem dX8_told_14 : decode cX8_told 14 = .ok (.iload_n 2, 1) := by decide +kernel
theorem dX8_told_15 : decode cX8_told 15 = .ok (.invokestatic 71, 3) := by decide +kernel
theorem dX8_told_18 : decode cX8_told 18 = .ok (.ifCond .eq 11, 3) := by decide +kernel
theorem dX8_told_21 : decode cX8_told 21 = .ok (.iload_n 1, 1) := by decide +kernel
theorem dX8_told_22 : decode cX8_told 22 = .ok (.bipush 10, 2) := by decide +kernel
theorem dX8_told_24 : decode cX8_told 24 = .ok (.irem, 1) := by decide +kernel
theorem dX8_told_25 : decode cX8_told 25 = .ok (.iconst 2, 1) := by decide +kernel
theorem dX8_told_26 : decode cX8_told 26 = .ok (.if_icmp .le 6, 3) := by decide +kernel
theorem dX8_told_29 : decode cX8_told 29 = .ok (.bipush (-2), 2) := by decide +kernel
theorem dX8_told_31 : decode cX8_told 31 = .ok (.ireturn, 1) := by decide +kernel
theorem dX8_told_32 : decode cX8_told 32 = .ok (.iload_n 1, 1) := by decide +kernel
theorem dX8_told_33 : decode cX8_told 33 = .ok (.bipush 10, 2) := by decide +kernel
theorem dX8_told_35 : decode cX8_told 35 = .ok (.irem, 1) := by decide +kernel
theorem dX8_told_36 : decode cX8_told 36 = .ok (.ifCond .ne 12, 3) := by decide +kernel
theorem dX8_told_39 : decode cX8_told 39 = .ok (.aload_n 0, 1) := by decide +kernel
theorem dX8_told_40 : decode cX8_told 40 = .ok (.getfield 28, 3) := by decide +kernel
theorem dX8_told_43 : decode cX8_told 43 = .ok (.iload_n 2, 1) := by decide +kernel
theorem dX8_told_44 : decode cX8_told 44 = .ok (.iaload, 1) := by decide +kernel
theorem dX8_told_45 : decode cX8_told 45 = .ok (.goto 29, 3) := by decide +kernel
theorem dX8_told_48 : decode cX8_told 48 = .ok (.iload_n 1, 1) := by decide +kernel
theorem dX8_told_49 : decode cX8_told 49 = .ok (.bipush 10, 2) := by decide +kernel
theorem dX8_told_51 : decode cX8_told 51 = .ok (.irem, 1) := by decide +kernel
theorem dX8_told_52 : decode cX8_told 52 = .ok (.iconst 1, 1) := by decide +kernel
theorem dX8_told_53 : decode cX8_told 53 = .ok (.if_icmp .ne 15, 3) := by decide +kernel
theorem dX8_told_56 : decode cX8_told 56 = .ok (.aload_n 0, 1) := by decide +kernel
theorem dX8_told_57 : decode cX8_told 57 = .ok (.getfield 7, 3) := by decide +kernel
theorem dX8_told_60 : decode cX8_told 60 = .ok (.bipush 24, 2) := by decide +kernel
theorem dX8_told_62 : decode cX8_told 62 = .ok (.iload_n 2, 1) := by decide +kernel
theorem dX8_told_63 : decode cX8_told 63 = .ok (.iadd, 1) := by decide +kernel
theorem dX8_told_64 : decode cX8_told 64 = .ok (.iaload, 1) := by decide +kernel
theorem dX8_told_65 : decode cX8_told 65 = .ok (.goto 9, 3) := by decide +kernel
theorem dX8_told_68 : decode cX8_told 68 = .ok (.aload_n 0, 1) := by decide +kernel
theorem dX8_told_69 : decode cX8_told 69 = .ok (.getfield 25, 3) := by decide +kernel
theorem dX8_told_72 : decode cX8_told 72 = .ok (.iload_n 2, 1) := by decide +kernel
theorem dX8_told_73 : decode cX8_told 73 = .ok (.iaload, 1) := by decide +kernel
theorem dX8_told_74 : decode cX8_told 74 = .ok (.ireturn, 1) := by decide +kernel
theorem dX8_told_75 : decode cX8_told 75 = .ok (.iload_n 1, 1) := by decide +kernel
theorem dX8_told_76 : decode cX8_told 76 = .ok (.bipush 10, 2) := by decide +kernel
theorem dX8_told_78 : decode cX8_told 78 = .ok (.if_icmp .lt 18, 3) := by decide +kernel
theorem dX8_told_81 : decode cX8_told 81 = .ok (.aload_n 0, 1) := by decide +kernel
theorem dX8_told_82 : decode cX8_told 82 = .ok (.iload_n 1, 1) := by decide +kernel
theorem dX8_told_83 : decode cX8_told 83 = .ok (.bipush 10, 2) := by decide +kernel
theorem dX8_told_85 : decode cX8_told 85 = .ok (.idiv, 1) := by decide +kernel
theorem dX8_told_86 : decode cX8_told 86 = .ok (.iconst 1, 1) := by decide +kernel
theorem dX8_told_87 : decode cX8_told 87 = .ok (.isub, 1) := by decide +kernel
theorem dX8_told_88 : decode cX8_told 88 = .ok (.iload_n 1, 1) := by decide +kernel
theorem dX8_told_89 : decode cX8_told 89 = .ok (.bipush 10, 2) := by decide +kernel
theorem dX8_told_91 : decode cX8_told 91 = .ok (.irem, 1) := by decide +kernel
theorem dX8_told_92 : decode cX8_told 92 = .ok (.invokevirtual 185, 3) := by decide +kernel
theorem dX8_told_95 : decode cX8_told 95 = .ok (.ireturn, 1) := by decide +kernel
theorem dX8_told_96 : decode cX8_told 96 = .ok (.iload_n 1, 1) := by decide +kernel
theorem dX8_told_97 : decode cX8_told 97 = .ok (.tableswitch 79 0 5 #[39, 44, 49, 58, 66, 74], 39) := by decide +kernel
theorem dX8_told_136 : decode cX8_told 136 = .ok (.aload_n 0, 1) := by decide +kernel
theorem dX8_told_137 : decode cX8_told 137 = .ok (.getfield 85, 3) := by decide +kernel
theorem dX8_told_140 : decode cX8_told 140 = .ok (.ireturn, 1) := by decide +kernel
theorem dX8_told_141 : decode cX8_told 141 = .ok (.aload_n 0, 1) := by decide +kernel
theorem dX8_told_142 : decode cX8_told 142 = .ok (.getfield 63, 3) := by decide +kernel
theorem dX8_told_145 : decode cX8_told 145 = .ok (.ireturn, 1) := by decide +kernel
theorem dX8_told_146 : decode cX8_told 146 = .ok (.aload_n 0, 1) := by decide +kernel
theorem dX8_told_147 : decode cX8_told 147 = .ok (.invokevirtual 110, 3) := by decide +kernel
theorem dX8_told_150 : decode cX8_told 150 = .ok (.aload_n 0, 1) := by decide +kernel
theorem dX8_told_151 : decode cX8_told 151 = .ok (.invokevirtual 116, 3) := by decide +kernel
theorem dX8_told_154 : decode cX8_told 154 = .ok (.ireturn, 1) := by decide +kernel
theorem dX8_told_155 : decode cX8_told 155 = .ok (.aload_n 0, 1) := by decide +kernel
theorem dX8_told_156 : decode cX8_told 156 = .ok (.getfield 7, 3) := by decide +kernel
theorem dX8_told_159 : decode cX8_told 159 = .ok (.bipush 35, 2) := by decide +kernel
theorem dX8_told_161 : decode cX8_told 161 = .ok (.iaload, 1) := by decide +kernel
theorem dX8_told_162 : decode cX8_told 162 = .ok (.ireturn, 1) := by decide +kernel
theorem dX8_told_163 : decode cX8_told 163 = .ok (.aload_n 0, 1) := by decide +kernel
theorem dX8_told_164 : decode cX8_told 164 = .ok (.getfield 7, 3) := by decide +kernel
theorem dX8_told_167 : decode cX8_told 167 = .ok (.bipush 34, 2) := by decide +kernel
theorem dX8_told_169 : decode cX8_told 169 = .ok (.iaload, 1) := by decide +kernel
theorem dX8_told_170 : decode cX8_told 170 = .ok (.ireturn, 1) := by decide +kernel
theorem dX8_told_171 : decode cX8_told 171 = .ok (.aload_n 0, 1) := by decide +kernel
theorem dX8_told_172 : decode cX8_told 172 = .ok (.getfield 79, 3) := by decide +kernel
theorem dX8_told_175 : decode cX8_told 175 = .ok (.ireturn, 1) := by decide +kernel
theorem dX8_told_176 : decode cX8_told 176 = .ok (.iload_n 1, 1) := by decide +kernel
theorem dX8_told_177 : decode cX8_told 177 = .ok (.bipush 6, 2) := by decide +kernel
theorem dX8_told_179 : decode cX8_told 179 = .ok (.if_icmp .ne 10, 3) := by decide +kernel
theorem dX8_told_182 : decode cX8_told 182 = .ok (.aload_n 0, 1) := by decide +kernel
theorem dX8_told_183 : decode cX8_told 183 = .ok (.getfield 160, 3) := by decide +kernel
theorem dX8_told_186 : decode cX8_told 186 = .ok (.goto 5, 3) := by decide +kernel
theorem dX8_told_189 : decode cX8_told 189 = .ok (.bipush (-2), 2) := by decide +kernel
theorem dX8_told_191 : decode cX8_told 191 = .ok (.ireturn, 1) := by decide +kernel
theorem dJ6_numberOfTrailingZeros_0f7a4_0 : decode cJ6_numberOfTrailingZeros_0f7a4 0 = .ok (.iload_n 0, 1) := by decide +kernel
theorem dJ6_numberOfTrailingZeros_0f7a4_1 : decode cJ6_numberOfTrailingZeros_0f7a4 1 = .ok (.iconst (-1), 1) := by decide +kernel
theorem dJ6_numberOfTrailingZeros_0f7a4_2 : decode cJ6_numberOfTrailingZeros_0f7a4 2 = .ok (.ixor, 1) := by decide +kernel
theorem dJ6_numberOfTrailingZeros_0f7a4_3 : decode cJ6_numberOfTrailingZeros_0f7a4 3 = .ok (.iload_n 0, 1) := by decide +kernel
theorem dJ6_numberOfTrailingZeros_0f7a4_4 : decode cJ6_numberOfTrailingZeros_0f7a4 4 = .ok (.iconst 1, 1) := by decide +kernel
theorem dJ6_numberOfTrailingZeros_0f7a4_5 : decode cJ6_numberOfTrailingZeros_0f7a4 5 = .ok (.isub, 1) := by decide +kernel
theorem dJ6_numberOfTrailingZeros_0f7a4_6 : decode cJ6_numberOfTrailingZeros_0f7a4 6 = .ok (.iand, 1) := by decide +kernel
theorem dJ6_numberOfTrailingZeros_0f7a4_7 : decode cJ6_numberOfTrailingZeros_0f7a4 7 = .ok (.istore_n 0, 1) := by decide +kernel
theorem dJ6_numberOfTrailingZeros_0f7a4_8 : decode cJ6_numberOfTrailingZeros_0f7a4 8 = .ok (.iload_n 0, 1) := by decide +kernel
theorem dJ6_numberOfTrailingZeros_0f7a4_9 : decode cJ6_numberOfTrailingZeros_0f7a4 9 = .ok (.ifCond .gt 8, 3) := by decide +kernel
theorem dJ6_numberOfTrailingZeros_0f7a4_12 : decode cJ6_numberOfTrailingZeros_0f7a4 12 = .ok (.iload_n 0, 1) := by decide +kernel
theorem dJ6_numberOfTrailingZeros_0f7a4_13 : decode cJ6_numberOfTrailingZeros_0f7a4 13 = .ok (.bipush 32, 2) := by decide +kernel
theorem dJ6_numberOfTrailingZeros_0f7a4_15 : decode cJ6_numberOfTrailingZeros_0f7a4 15 = .ok (.iand, 1) := by decide +kernel
theorem dJ6_numberOfTrailingZeros_0f7a4_16 : decode cJ6_numberOfTrailingZeros_0f7a4 16 = .ok (.ireturn, 1) := by decide +kernel
theorem dJ6_numberOfTrailingZeros_0f7a4_17 : decode cJ6_numberOfTrailingZeros_0f7a4 17 = .ok (.iconst 1, 1) := by decide +kernel
theorem dJ6_numberOfTrailingZeros_0f7a4_18 : decode cJ6_numberOfTrailingZeros_0f7a4 18 = .ok (.istore_n 1, 1) := by decide +kernel
theorem dJ6_numberOfTrailingZeros_0f7a4_19 : decode cJ6_numberOfTrailingZeros_0f7a4 19 = .ok (.iload_n 0, 1) := by decide +kernel
theorem dJ6_numberOfTrailingZeros_0f7a4_20 : decode cJ6_numberOfTrailingZeros_0f7a4 20 = .ok (.ldc_w 264, 3) := by decide +kernel
theorem dJ6_numberOfTrailingZeros_0f7a4_23 : decode cJ6_numberOfTrailingZeros_0f7a4 23 = .ok (.if_icmp .le 11, 3) := by decide +kernel
theorem dJ6_numberOfTrailingZeros_0f7a4_26 : decode cJ6_numberOfTrailingZeros_0f7a4 26 = .ok (.iinc 1 16, 3) := by decide +kernel
theorem dJ6_numberOfTrailingZeros_0f7a4_29 : decode cJ6_numberOfTrailingZeros_0f7a4 29 = .ok (.iload_n 0, 1) := by decide +kernel
theorem dJ6_numberOfTrailingZeros_0f7a4_30 : decode cJ6_numberOfTrailingZeros_0f7a4 30 = .ok (.bipush 16, 2) := by decide +kernel
theorem dJ6_numberOfTrailingZeros_0f7a4_32 : decode cJ6_numberOfTrailingZeros_0f7a4 32 = .ok (.iushr, 1) := by decide +kernel
theorem dJ6_numberOfTrailingZeros_0f7a4_33 : decode cJ6_numberOfTrailingZeros_0f7a4 33 = .ok (.istore_n 0, 1) := by decide +kernel
theorem dJ6_numberOfTrailingZeros_0f7a4_34 : decode cJ6_numberOfTrailingZeros_0f7a4 34 = .ok (.iload_n 0, 1) := by decide +kernel
theorem dJ6_numberOfTrailingZeros_0f7a4_35 : decode cJ6_numberOfTrailingZeros_0f7a4 35 = .ok (.sipush 256, 3) := by decide +kernel
theorem dJ6_numberOfTrailingZeros_0f7a4_38 : decode cJ6_numberOfTrailingZeros_0f7a4 38 = .ok (.if_icmp .le 11, 3) := by decide +kernel
theorem dJ6_numberOfTrailingZeros_0f7a4_41 : decode cJ6_numberOfTrailingZeros_0f7a4 41 = .ok (.iinc 1 8, 3) := by decide +kernel
theorem dJ6_numberOfTrailingZeros_0f7a4_44 : decode cJ6_numberOfTrailingZeros_0f7a4 44 = .ok (.iload_n 0, 1) := by decide +kernel
theorem dJ6_numberOfTrailingZeros_0f7a4_45 : decode cJ6_numberOfTrailingZeros_0f7a4 45 = .ok (.bipush 8, 2) := by decide +kernel
theorem dJ6_numberOfTrailingZeros_0f7a4_47 : decode cJ6_numberOfTrailingZeros_0f7a4 47 = .ok (.iushr, 1) := by decide +kernel
theorem dJ6_numberOfTrailingZeros_0f7a4_48 : decode cJ6_numberOfTrailingZeros_0f7a4 48 = .ok (.istore_n 0, 1) := by decide +kernel
theorem dJ6_numberOfTrailingZeros_0f7a4_49 : decode cJ6_numberOfTrailingZeros_0f7a4 49 = .ok (.iload_n 0, 1) := by decide +kernel
theorem dJ6_numberOfTrailingZeros_0f7a4_50 : decode cJ6_numberOfTrailingZeros_0f7a4 50 = .ok (.bipush 16, 2) := by decide +kernel
theorem dJ6_numberOfTrailingZeros_0f7a4_52 : decode cJ6_numberOfTrailingZeros_0f7a4 52 = .ok (.if_icmp .le 10, 3) := by decide +kernel
theorem dJ6_numberOfTrailingZeros_0f7a4_55 : decode cJ6_numberOfTrailingZeros_0f7a4 55 = .ok (.iinc 1 4, 3) := by decide +kernel
theorem dJ6_numberOfTrailingZeros_0f7a4_58 : decode cJ6_numberOfTrailingZeros_0f7a4 58 = .ok (.iload_n 0, 1) := by decide +kernel
theorem dJ6_numberOfTrailingZeros_0f7a4_59 : decode cJ6_numberOfTrailingZeros_0f7a4 59 = .ok (.iconst 4, 1) := by decide +kernel
theorem dJ6_numberOfTrailingZeros_0f7a4_60 : decode cJ6_numberOfTrailingZeros_0f7a4 60 = .ok (.iushr, 1) := by decide +kernel
theorem dJ6_numberOfTrailingZeros_0f7a4_61 : decode cJ6_numberOfTrailingZeros_0f7a4 61 = .ok (.istore_n 0, 1) := by decide +kernel
theorem dJ6_numberOfTrailingZeros_0f7a4_62 : decode cJ6_numberOfTrailingZeros_0f7a4 62 = .ok (.iload_n 0, 1) := by decide +kernel
theorem dJ6_numberOfTrailingZeros_0f7a4_63 : decode cJ6_numberOfTrailingZeros_0f7a4 63 = .ok (.iconst 4, 1) := by decide +kernel
theorem dJ6_numberOfTrailingZeros_0f7a4_64 : decode cJ6_numberOfTrailingZeros_0f7a4 64 = .ok (.if_icmp .le 10, 3) := by decide +kernel
theorem dJ6_numberOfTrailingZeros_0f7a4_67 : decode cJ6_numberOfTrailingZeros_0f7a4 67 = .ok (.iinc 1 2, 3) := by decide +kernel
theorem dJ6_numberOfTrailingZeros_0f7a4_70 : decode cJ6_numberOfTrailingZeros_0f7a4 70 = .ok (.iload_n 0, 1) := by decide +kernel
theorem dJ6_numberOfTrailingZeros_0f7a4_71 : decode cJ6_numberOfTrailingZeros_0f7a4 71 = .ok (.iconst 2, 1) := by decide +kernel
theorem dJ6_numberOfTrailingZeros_0f7a4_72 : decode cJ6_numberOfTrailingZeros_0f7a4 72 = .ok (.iushr, 1) := by decide +kernel
theorem dJ6_numberOfTrailingZeros_0f7a4_73 : decode cJ6_numberOfTrailingZeros_0f7a4 73 = .ok (.istore_n 0, 1) := by decide +kernel
theorem dJ6_numberOfTrailingZeros_0f7a4_74 : decode cJ6_numberOfTrailingZeros_0f7a4 74 = .ok (.iload_n 1, 1) := by decide +kernel
theorem dJ6_numberOfTrailingZeros_0f7a4_75 : decode cJ6_numberOfTrailingZeros_0f7a4 75 = .ok (.iload_n 0, 1) := by decide +kernel
theorem dJ6_numberOfTrailingZeros_0f7a4_76 : decode cJ6_numberOfTrailingZeros_0f7a4 76 = .ok (.iconst 1, 1) := by decide +kernel
theorem dJ6_numberOfTrailingZeros_0f7a4_77 : decode cJ6_numberOfTrailingZeros_0f7a4 77 = .ok (.iushr, 1) := by decide +kernel
theorem dJ6_numberOfTrailingZeros_0f7a4_78 : decode cJ6_numberOfTrailingZeros_0f7a4 78 = .ok (.iadd, 1) := by decide +kernel
theorem dJ6_numberOfTrailingZeros_0f7a4_79 : decode cJ6_numberOfTrailingZeros_0f7a4 79 = .ok (.ireturn, 1) := by decide +kernel
theorem dJ6_bitCount_0f7a4_0 : decode cJ6_bitCount_0f7a4 0 = .ok (.iload_n 0, 1) := by decide +kernel
theorem dJ6_bitCount_0f7a4_1 : decode cJ6_bitCount_0f7a4 1 = .ok (.iload_n 0, 1) := by decide +kernel
theorem dJ6_bitCount_0f7a4_2 : decode cJ6_bitCount_0f7a4 2 = .ok (.iconst 1, 1) := by decide +kernel
theorem dJ6_bitCount_0f7a4_3 : decode cJ6_bitCount_0f7a4 3 = .ok (.iushr, 1) := by decide +kernel
theorem dJ6_bitCount_0f7a4_4 : decode cJ6_bitCount_0f7a4 4 = .ok (.ldc_w 265, 3) := by decide +kernel
theorem dJ6_bitCount_0f7a4_7 : decode cJ6_bitCount_0f7a4 7 = .ok (.iand, 1) := by decide +kernel
theorem dJ6_bitCount_0f7a4_8 : decode cJ6_bitCount_0f7a4 8 = .ok (.isub, 1) := by decide +kernel
theorem dJ6_bitCount_0f7a4_9 : decode cJ6_bitCount_0f7a4 9 = .ok (.istore_n 0, 1) := by decide +kernel
theorem dJ6_bitCount_0f7a4_10 : decode cJ6_bitCount_0f7a4 10 = .ok (.iload_n 0, 1) := by decide +kernel
theorem dJ6_bitCount_0f7a4_11 : decode cJ6_bitCount_0f7a4 11 = .ok (.ldc_w 266, 3) := by decide +kernel
theorem dJ6_bitCount_0f7a4_14 : decode cJ6_bitCount_0f7a4 14 = .ok (.iand, 1) := by decide +kernel
theorem dJ6_bitCount_0f7a4_15 : decode cJ6_bitCount_0f7a4 15 = .ok (.iload_n 0, 1) := by decide +kernel
theorem dJ6_bitCount_0f7a4_16 : decode cJ6_bitCount_0f7a4 16 = .ok (.iconst 2, 1) := by decide +kernel
theorem dJ6_bitCount_0f7a4_17 : decode cJ6_bitCount_0f7a4 17 = .ok (.iushr, 1) := by decide +kernel
theorem dJ6_bitCount_0f7a4_18 : decode cJ6_bitCount_0f7a4 18 = .ok (.ldc_w 266, 3) := by decide +kernel
theorem dJ6_bitCount_0f7a4_21 : decode cJ6_bitCount_0f7a4 21 = .ok (.iand, 1) := by decide +kernel
theorem dJ6_bitCount_0f7a4_22 : decode cJ6_bitCount_0f7a4 22 = .ok (.iadd, 1) := by decide +kernel
theorem dJ6_bitCount_0f7a4_23 : decode cJ6_bitCount_0f7a4 23 = .ok (.istore_n 0, 1) := by decide +kernel
theorem dJ6_bitCount_0f7a4_24 : decode cJ6_bitCount_0f7a4 24 = .ok (.iload_n 0, 1) := by decide +kernel
theorem dJ6_bitCount_0f7a4_25 : decode cJ6_bitCount_0f7a4 25 = .ok (.iload_n 0, 1) := by decide +kernel
theorem dJ6_bitCount_0f7a4_26 : decode cJ6_bitCount_0f7a4 26 = .ok (.iconst 4, 1) := by decide +kernel
theorem dJ6_bitCount_0f7a4_27 : decode cJ6_bitCount_0f7a4 27 = .ok (.iushr, 1) := by decide +kernel
theorem dJ6_bitCount_0f7a4_28 : decode cJ6_bitCount_0f7a4 28 = .ok (.iadd, 1) := by decide +kernel
theorem dJ6_bitCount_0f7a4_29 : decode cJ6_bitCount_0f7a4 29 = .ok (.ldc_w 267, 3) := by decide +kernel
theorem dJ6_bitCount_0f7a4_32 : decode cJ6_bitCount_0f7a4 32 = .ok (.iand, 1) := by decide +kernel
theorem dJ6_bitCount_0f7a4_33 : decode cJ6_bitCount_0f7a4 33 = .ok (.istore_n 0, 1) := by decide +kernel
theorem dJ6_bitCount_0f7a4_34 : decode cJ6_bitCount_0f7a4 34 = .ok (.iload_n 0, 1) := by decide +kernel
theorem dJ6_bitCount_0f7a4_35 : decode cJ6_bitCount_0f7a4 35 = .ok (.iload_n 0, 1) := by decide +kernel
theorem dJ6_bitCount_0f7a4_36 : decode cJ6_bitCount_0f7a4 36 = .ok (.bipush 8, 2) := by decide +kernel
theorem dJ6_bitCount_0f7a4_38 : decode cJ6_bitCount_0f7a4 38 = .ok (.iushr, 1) := by decide +kernel
theorem dJ6_bitCount_0f7a4_39 : decode cJ6_bitCount_0f7a4 39 = .ok (.iadd, 1) := by decide +kernel
theorem dJ6_bitCount_0f7a4_40 : decode cJ6_bitCount_0f7a4 40 = .ok (.istore_n 0, 1) := by decide +kernel
theorem dJ6_bitCount_0f7a4_41 : decode cJ6_bitCount_0f7a4 41 = .ok (.iload_n 0, 1) := by decide +kernel
theorem dJ6_bitCount_0f7a4_42 : decode cJ6_bitCount_0f7a4 42 = .ok (.iload_n 0, 1) := by decide +kernel
theorem dJ6_bitCount_0f7a4_43 : decode cJ6_bitCount_0f7a4 43 = .ok (.bipush 16, 2) := by decide +kernel
theorem dJ6_bitCount_0f7a4_45 : decode cJ6_bitCount_0f7a4 45 = .ok (.iushr, 1) := by decide +kernel
theorem dJ6_bitCount_0f7a4_46 : decode cJ6_bitCount_0f7a4 46 = .ok (.iadd, 1) := by decide +kernel
theorem dJ6_bitCount_0f7a4_47 : decode cJ6_bitCount_0f7a4 47 = .ok (.istore_n 0, 1) := by decide +kernel
theorem dJ6_bitCount_0f7a4_48 : decode cJ6_bitCount_0f7a4 48 = .ok (.iload_n 0, 1) := by decide +kernel
theorem dJ6_bitCount_0f7a4_49 : decode cJ6_bitCount_0f7a4 49 = .ok (.bipush 63, 2) := by decide +kernel
theorem dJ6_bitCount_0f7a4_51 : decode cJ6_bitCount_0f7a4 51 = .ok (.iand, 1) := by decide +kernel
theorem dJ6_bitCount_0f7a4_52 : decode cJ6_bitCount_0f7a4 52 = .ok (.ireturn, 1) := by decide +kernel
theorem dJ9_abs_0f7a4_0 : decode cJ9_abs_0f7a4 0 = .ok (.iload_n 0, 1) := by decide +kernel
theorem dJ9_abs_0f7a4_1 : decode cJ9_abs_0f7a4 1 = .ok (.ifCond .ge 8, 3) := by decide +kernel
theorem dJ9_abs_0f7a4_4 : decode cJ9_abs_0f7a4 4 = .ok (.iload_n 0, 1) := by decide +kernel
theorem dJ9_abs_0f7a4_5 : decode cJ9_abs_0f7a4 5 = .ok (.ineg, 1) := by decide +kernel
theorem dJ9_abs_0f7a4_6 : decode cJ9_abs_0f7a4 6 = .ok (.goto 4, 3) := by decide +kernel
theorem dJ9_abs_0f7a4_9 : decode cJ9_abs_0f7a4 9 = .ok (.iload_n 0, 1) := by decide +kernel
theorem dJ9_abs_0f7a4_10 : decode cJ9_abs_0f7a4 10 = .ok (.ireturn, 1) := by decide +kernel
theorem dJ9_max_7cf53_0 : decode cJ9_max_7cf53 0 = .ok (.iload_n 0, 1) := by decide +kernel
