theorem dX7_round_17 : decode cX7_round 17 = .ok (.bipush 99, 2) := by decide +kernel
theorem dX7_round_19 : decode cX7_round 19 = .ok (.if_icmp .gt 25, 3) := by decide +kernel
theorem dX7_round_22 : decode cX7_round 22 = .ok (.iload_n 2, 1) := by decide +kernel
theorem dX7_round_23 : decode cX7_round 23 = .ok (.ifCond .lt 21, 3) := by decide +kernel
theorem dX7_round_26 : decode cX7_round 26 = .ok (.iload_n 2, 1) := by decide +kernel
theorem dX7_round_27 : decode cX7_round 27 = .ok (.bipush 99, 2) := by decide +kernel
theorem dX7_round_29 : decode cX7_round 29 = .ok (.if_icmp .gt 15, 3) := by decide +kernel
theorem dX7_round_32 : decode cX7_round 32 = .ok (.iload 4, 2) := by decide +kernel
theorem dX7_round_34 : decode cX7_round 34 = .ok (.ifCond .lt 10, 3) := by decide +kernel
theorem dX7_round_37 : decode cX7_round 37 = .ok (.iload 4, 2) := by decide +kernel
theorem dX7_round_39 : decode cX7_round 39 = .ok (.bipush 99, 2) := by decide +kernel
theorem dX7_round_41 : decode cX7_round 41 = .ok (.if_icmp .le 6, 3) := by decide +kernel
theorem dX7_round_44 : decode cX7_round 44 = .ok (.bipush (-2), 2) := by decide +kernel
theorem dX7_round_46 : decode cX7_round 46 = .ok (.ireturn, 1) := by decide +kernel
theorem dX7_round_47 : decode cX7_round 47 = .ok (.iload_n 1, 1) := by decide +kernel
theorem dX7_round_48 : decode cX7_round 48 = .ok (.iload_n 2, 1) := by decide +kernel
theorem dX7_round_49 : decode cX7_round 49 = .ok (.iload_n 1, 1) := by decide +kernel
theorem dX7_round_50 : decode cX7_round 50 = .ok (.irem, 1) := by decide +kernel
theorem dX7_round_51 : decode cX7_round 51 = .ok (.isub, 1) := by decide +kernel
theorem dX7_round_52 : decode cX7_round 52 = .ok (.iload_n 1, 1) := by decide +kernel
theorem dX7_round_53 : decode cX7_round 53 = .ok (.irem, 1) := by decide +kernel
theorem dX7_round_54 : decode cX7_round 54 = .ok (.istore 5, 2) := by decide +kernel
theorem dX7_round_56 : decode cX7_round 56 = .ok (.iconst 0, 1) := by decide +kernel
theorem dX7_round_57 : decode cX7_round 57 = .ok (.istore 6, 2) := by decide +kernel
theorem dX7_round_59 : decode cX7_round 59 = .ok (.iload 6, 2) := by decide +kernel
theorem dX7_round_61 : decode cX7_round 61 = .ok (.iload_n 3, 1) := by decide +kernel
theorem dX7_round_62 : decode cX7_round 62 = .ok (.if_icmp .ge 28, 3) := by decide +kernel
theorem dX7_round_65 : decode cX7_round 65 = .ok (.iload 5, 2) := by decide +kernel
theorem dX7_round_67 : decode cX7_round 67 = .ok (.iload 4, 2) := by decide +kernel
theorem dX7_round_69 : decode cX7_round 69 = .ok (.iadd, 1) := by decide +kernel
theorem dX7_round_70 : decode cX7_round 70 = .ok (.iload_n 3, 1) := by decide +kernel
theorem dX7_round_71 : decode cX7_round 71 = .ok (.irem, 1) := by decide +kernel
theorem dX7_round_72 : decode cX7_round 72 = .ok (.ifCond .ne 6, 3) := by decide +kernel
theorem dX7_round_75 : decode cX7_round 75 = .ok (.iload 5, 2) := by decide +kernel
theorem dX7_round_77 : decode cX7_round 77 = .ok (.ireturn, 1) := by decide +kernel
theorem dX7_round_78 : decode cX7_round 78 = .ok (.iload 5, 2) := by decide +kernel
theorem dX7_round_80 : decode cX7_round 80 = .ok (.iload_n 1, 1) := by decide +kernel
theorem dX7_round_81 : decode cX7_round 81 = .ok (.iadd, 1) := by decide +kernel
theorem dX7_round_82 : decode cX7_round 82 = .ok (.istore 5, 2) := by decide +kernel
theorem dX7_round_84 : decode cX7_round 84 = .ok (.iinc 6 1, 3) := by decide +kernel
theorem dX7_round_87 : decode cX7_round 87 = .ok (.goto (-28), 3) := by decide +kernel
theorem dX7_round_90 : decode cX7_round 90 = .ok (.bipush (-6), 2) := by decide +kernel
theorem dX7_round_92 : decode cX7_round 92 = .ok (.ireturn, 1) := by decide +kernel
set_option maxRecDepth 20000 in
theorem ggX7_heard_X7_isGallery : GoodIn wsX7_heard wsX7_isGallery := goodIn_r _ [8] (by decide +kernel) (by decide +kernel)
set_option maxRecDepth 20000 in
theorem gX7_heard_X7_isGallery : GoodIn wsX7_heard (va_wsS RX7 66 yX7_isGallery wsX7_isGallery) := goodIn_app (goodIn_of _ (by decide +kernel)) ggX7_heard_X7_isGallery
theorem dX7_heard_0 : decode cX7_heard 0 = .ok (.iload_n 1, 1) := by decide +kernel
theorem dX7_heard_1 : decode cX7_heard 1 = .ok (.invokestatic 66, 3) := by decide +kernel
theorem dX7_heard_4 : decode cX7_heard 4 = .ok (.ifCond .ne 5, 3) := by decide +kernel
theorem dX7_heard_7 : decode cX7_heard 7 = .ok (.iconst (-1), 1) := by decide +kernel
theorem dX7_heard_8 : decode cX7_heard 8 = .ok (.ireturn, 1) := by decide +kernel
theorem dX7_heard_9 : decode cX7_heard 9 = .ok (.iload_n 2, 1) := by decide +kernel
theorem dX7_heard_10 : decode cX7_heard 10 = .ok (.iconst (-1), 1) := by decide +kernel
theorem dX7_heard_11 : decode cX7_heard 11 = .ok (.if_icmp .lt 9, 3) := by decide +kernel
theorem dX7_heard_14 : decode cX7_heard 14 = .ok (.iload_n 2, 1) := by decide +kernel
theorem dX7_heard_15 : decode cX7_heard 15 = .ok (.bipush 24, 2) := by decide +kernel
theorem dX7_heard_17 : decode cX7_heard 17 = .ok (.if_icmp .lt 6, 3) := by decide +kernel
theorem dX7_heard_20 : decode cX7_heard 20 = .ok (.bipush (-2), 2) := by decide +kernel
theorem dX7_heard_22 : decode cX7_heard 22 = .ok (.ireturn, 1) := by decide +kernel
theorem dX7_heard_23 : decode cX7_heard 23 = .ok (.aload_n 0, 1) := by decide +kernel
theorem dX7_heard_24 : decode cX7_heard 24 = .ok (.getfield 10, 3) := by decide +kernel
theorem dX7_heard_27 : decode cX7_heard 27 = .ok (.getfield 220, 3) := by decide +kernel
theorem dX7_heard_30 : decode cX7_heard 30 = .ok (.bipush 8, 2) := by decide +kernel
theorem dX7_heard_32 : decode cX7_heard 32 = .ok (.if_icmp .lt 6, 3) := by decide +kernel
theorem dX7_heard_35 : decode cX7_heard 35 = .ok (.bipush (-4), 2) := by decide +kernel
theorem dX7_heard_37 : decode cX7_heard 37 = .ok (.ireturn, 1) := by decide +kernel
theorem dX7_heard_38 : decode cX7_heard 38 = .ok (.aload_n 0, 1) := by decide +kernel
theorem dX7_heard_39 : decode cX7_heard 39 = .ok (.getfield 10, 3) := by decide +kernel
theorem dX7_heard_42 : decode cX7_heard 42 = .ok (.getfield 223, 3) := by decide +kernel
theorem dX7_heard_45 : decode cX7_heard 45 = .ok (.aload_n 0, 1) := by decide +kernel
theorem dX7_heard_46 : decode cX7_heard 46 = .ok (.getfield 10, 3) := by decide +kernel
theorem dX7_heard_49 : decode cX7_heard 49 = .ok (.getfield 220, 3) := by decide +kernel
theorem dX7_heard_52 : decode cX7_heard 52 = .ok (.iload_n 1, 1) := by decide +kernel
theorem dX7_heard_53 : decode cX7_heard 53 = .ok (.iastore, 1) := by decide +kernel
theorem dX7_heard_54 : decode cX7_heard 54 = .ok (.aload_n 0, 1) := by decide +kernel
theorem dX7_heard_55 : decode cX7_heard 55 = .ok (.getfield 10, 3) := by decide +kernel
theorem dX7_heard_58 : decode cX7_heard 58 = .ok (.getfield 226, 3) := by decide +kernel
theorem dX7_heard_61 : decode cX7_heard 61 = .ok (.aload_n 0, 1) := by decide +kernel
theorem dX7_heard_62 : decode cX7_heard 62 = .ok (.getfield 10, 3) := by decide +kernel
theorem dX7_heard_65 : decode cX7_heard 65 = .ok (.getfield 220, 3) := by decide +kernel
theorem dX7_heard_68 : decode cX7_heard 68 = .ok (.iload_n 2, 1) := by decide +kernel
theorem dX7_heard_69 : decode cX7_heard 69 = .ok (.iastore, 1) := by decide +kernel
theorem dX7_heard_70 : decode cX7_heard 70 = .ok (.aload_n 0, 1) := by decide +kernel
theorem dX7_heard_71 : decode cX7_heard 71 = .ok (.getfield 10, 3) := by decide +kernel
theorem dX7_heard_74 : decode cX7_heard 74 = .ok (.dup, 1) := by decide +kernel
theorem dX7_heard_75 : decode cX7_heard 75 = .ok (.getfield 220, 3) := by decide +kernel
theorem dX7_heard_78 : decode cX7_heard 78 = .ok (.iconst 1, 1) := by decide +kernel
theorem dX7_heard_79 : decode cX7_heard 79 = .ok (.iadd, 1) := by decide +kernel
theorem dX7_heard_80 : decode cX7_heard 80 = .ok (.putfield 220, 3) := by decide +kernel
theorem dX7_heard_83 : decode cX7_heard 83 = .ok (.aload_n 0, 1) := by decide +kernel
theorem dX7_heard_84 : decode cX7_heard 84 = .ok (.getfield 10, 3) := by decide +kernel
theorem dX7_heard_87 : decode cX7_heard 87 = .ok (.getfield 220, 3) := by decide +kernel
theorem dX7_heard_90 : decode cX7_heard 90 = .ok (.ireturn, 1) := by decide +kernel
theorem dX7_forget_0 : decode cX7_forget 0 = .ok (.aload_n 0, 1) := by decide +kernel
theorem dX7_forget_1 : decode cX7_forget 1 = .ok (.getfield 10, 3) := by decide +kernel
theorem dX7_forget_4 : decode cX7_forget 4 = .ok (.getfield 220, 3) := by decide +kernel
theorem dX7_forget_7 : decode cX7_forget 7 = .ok (.istore_n 1, 1) := by decide +kernel
theorem dX7_forget_8 : decode cX7_forget 8 = .ok (.aload_n 0, 1) := by decide +kernel
theorem dX7_forget_9 : decode cX7_forget 9 = .ok (.getfield 10, 3) := by decide +kernel
theorem dX7_forget_12 : decode cX7_forget 12 = .ok (.iconst 0, 1) := by decide +kernel
theorem dX7_forget_13 : decode cX7_forget 13 = .ok (.putfield 220, 3) := by decide +kernel
theorem dX7_forget_16 : decode cX7_forget 16 = .ok (.iload_n 1, 1) := by decide +kernel
theorem dX7_forget_17 : decode cX7_forget 17 = .ok (.ireturn, 1) := by decide +kernel
set_option maxRecDepth 20000 in
theorem ggX7_losts_X3_findFits : GoodIn wsX7_losts wsX3_findFits := goodIn_r _ [7, 8, 9, 10, 11, 12, 13, 14, 15, 16, 17, 18, 19, 20, 21, 22, 23, 24, 25, 26, 27, 28, 29, 30, 31, 32, 6, 33, 67, 68, 69, 70, 71, 72, 73, 74, 75, 76, 77, 78, 79, 80, 81, 82, 83, 84, 85, 86, 87, 88] (by decide +kernel) (by decide +kernel)
set_option maxRecDepth 20000 in
theorem gX7_losts_X3_findFits : GoodIn wsX7_losts (wsV RX7 229 RX3 yX3_findFits wsX3_findFits) := goodIn_app (goodIn_of _ (by decide +kernel)) ggX7_losts_X3_findFits
set_option maxRecDepth 20000 in
theorem ggX7_losts_X3_fitCount : GoodIn wsX7_losts wsX3_fitCount := goodIn_r _ [37, 8, 38, 39, 40, 41, 42, 43, 44, 67, 68, 69, 70, 71] (by decide +kernel) (by decide +kernel)
set_option maxRecDepth 20000 in
theorem gX7_losts_X3_fitCount : GoodIn wsX7_losts (wsV RX7 232 RX3 yX3_fitCount wsX3_fitCount) := goodIn_app (goodIn_of _ (by decide +kernel)) ggX7_losts_X3_fitCount
set_option maxRecDepth 20000 in
theorem ggX7_losts_X3_fitAt : GoodIn wsX7_losts wsX3_fitAt := goodIn_r _ [48, 8, 38, 39, 40, 41, 42, 43, 44, 49, 50, 6, 51, 52, 29, 53, 54, 55, 56, 57, 67, 68, 69, 70, 71] (by decide +kernel) (by decide +kernel)
set_option maxRecDepth 20000 in
theorem gX7_losts_X3_fitAt : GoodIn wsX7_losts (wsV RX7 235 RX3 yX3_fitAt wsX3_fitAt) := goodIn_app (goodIn_of _ (by decide +kernel)) ggX7_losts_X3_fitAt
theorem dX7_losts_0 : decode cX7_losts 0 = .ok (.aload_n 0, 1) := by decide +kernel
theorem dX7_losts_1 : decode cX7_losts 1 = .ok (.getfield 55, 3) := by decide +kernel
theorem dX7_losts_4 : decode cX7_losts 4 = .ok (.aload_n 0, 1) := by decide +kernel
theorem dX7_losts_5 : decode cX7_losts 5 = .ok (.getfield 10, 3) := by decide +kernel
theorem dX7_losts_8 : decode cX7_losts 8 = .ok (.invokevirtual 229, 3) := by decide +kernel
theorem dX7_losts_11 : decode cX7_losts 11 = .ok (.iload_n 1, 1) := by decide +kernel
theorem dX7_losts_12 : decode cX7_losts 12 = .ok (.iconst (-1), 1) := by decide +kernel
theorem dX7_losts_13 : decode cX7_losts 13 = .ok (.if_icmp .ne 13, 3) := by decide +kernel
theorem dX7_losts_16 : decode cX7_losts 16 = .ok (.aload_n 0, 1) := by decide +kernel
theorem dX7_losts_17 : decode cX7_losts 17 = .ok (.getfield 55, 3) := by decide +kernel
theorem dX7_losts_20 : decode cX7_losts 20 = .ok (.invokevirtual 232, 3) := by decide +kernel
theorem dX7_losts_23 : decode cX7_losts 23 = .ok (.goto 11, 3) := by decide +kernel
theorem dX7_losts_26 : decode cX7_losts 26 = .ok (.aload_n 0, 1) := by decide +kernel
theorem dX7_losts_27 : decode cX7_losts 27 = .ok (.getfield 55, 3) := by decide +kernel
theorem dX7_losts_30 : decode cX7_losts 30 = .ok (.iload_n 1, 1) := by decide +kernel
theorem dX7_losts_31 : decode cX7_losts 31 = .ok (.invokevirtual 235, 3) := by decide +kernel
theorem dX7_losts_34 : decode cX7_losts 34 = .ok (.ireturn, 1) := by decide +kernel
set_option maxRecDepth 20000 in
theorem ggX7_listen_X3_findFits : GoodIn wsX7_listen wsX3_findFits := goodIn_r _ [9, 10, 11, 12, 13, 14, 15, 16, 17, 18, 19, 20, 21, 22, 23, 24, 25, 26, 27, 28, 29, 30, 31, 32, 33, 34, 8, 35, 75, 76, 77, 78, 79, 80, 81, 82, 83, 84, 85, 86, 87, 88, 89, 90, 91, 92, 93, 94, 95, 96] (by decide +kernel) (by decide +kernel)
set_option maxRecDepth 20000 in
theorem gX7_listen_X3_findFits : GoodIn wsX7_listen (wsV RX7 229 RX3 yX3_findFits wsX3_findFits) := goodIn_app (goodIn_of _ (by decide +kernel)) ggX7_listen_X3_findFits
set_option maxRecDepth 20000 in
theorem ggX7_listen_X3_fitCount : GoodIn wsX7_listen wsX3_fitCount := goodIn_r _ [39, 10, 40, 41, 42, 43, 44, 45, 46, 75, 76, 77, 78, 79] (by decide +kernel) (by decide +kernel)
set_option maxRecDepth 20000 in
theorem gX7_listen_X3_fitCount : GoodIn wsX7_listen (wsV RX7 232 RX3 yX3_fitCount wsX3_fitCount) := goodIn_app (goodIn_of _ (by decide +kernel)) ggX7_listen_X3_fitCount
set_option maxRecDepth 20000 in
theorem ggX7_listen_X3_chooseListening : GoodIn wsX7_listen wsX3_chooseListening := goodIn_r _ [50, 51, 52, 13, 15, 16, 23, 24, 25, 26, 27, 28, 29, 20, 21, 22, 30, 31, 32, 53, 54, 55, 8, 56, 57, 10, 18, 58, 59, 60, 61, 19, 62, 63, 64, 65, 40, 41, 42, 43, 44, 45, 46, 75, 76, 77, 78, 79, 80, 81, 82, 83, 84, 85, 86, 87, 88, 89, 90, 91, 92, 93, 94, 95, 96] (by decide +kernel) (by decide +kernel)
set_option maxRecDepth 20000 in
theorem gX7_listen_X3_chooseListening : GoodIn wsX7_listen (wsV RX7 238 RX3 yX3_chooseListening wsX3_chooseListening) := goodIn_app (goodIn_of _ (by decide +kernel)) ggX7_listen_X3_chooseListening
theorem dX7_listen_0 : decode cX7_listen 0 = .ok (.iload_n 1, 1) := by decide +kernel
theorem dX7_listen_1 : decode cX7_listen 1 = .ok (.ifCond .lt 8, 3) := by decide +kernel
theorem dX7_listen_4 : decode cX7_listen 4 = .ok (.iload_n 1, 1) := by decide +kernel
theorem dX7_listen_5 : decode cX7_listen 5 = .ok (.iconst 1, 1) := by decide +kernel
theorem dX7_listen_6 : decode cX7_listen 6 = .ok (.if_icmp .le 6, 3) := by decide +kernel
theorem dX7_listen_9 : decode cX7_listen 9 = .ok (.bipush (-2), 2) := by decide +kernel
theorem dX7_listen_11 : decode cX7_listen 11 = .ok (.ireturn, 1) := by decide +kernel
theorem dX7_listen_12 : decode cX7_listen 12 = .ok (.aload_n 0, 1) := by decide +kernel
theorem dX7_listen_13 : decode cX7_listen 13 = .ok (.getfield 55, 3) := by decide +kernel
theorem dX7_listen_16 : decode cX7_listen 16 = .ok (.aload_n 0, 1) := by decide +kernel
theorem dX7_listen_17 : decode cX7_listen 17 = .ok (.getfield 10, 3) := by decide +kernel
theorem dX7_listen_20 : decode cX7_listen 20 = .ok (.invokevirtual 229, 3) := by decide +kernel
theorem dX7_listen_23 : decode cX7_listen 23 = .ok (.aload_n 0, 1) := by decide +kernel
theorem dX7_listen_24 : decode cX7_listen 24 = .ok (.getfield 55, 3) := by decide +kernel
theorem dX7_listen_27 : decode cX7_listen 27 = .ok (.invokevirtual 232, 3) := by decide +kernel
theorem dX7_listen_30 : decode cX7_listen 30 = .ok (.ifCond .ne 6, 3) := by decide +kernel
theorem dX7_listen_33 : decode cX7_listen 33 = .ok (.bipush (-6), 2) := by decide +kernel
theorem dX7_listen_35 : decode cX7_listen 35 = .ok (.ireturn, 1) := by decide +kernel
theorem dX7_listen_36 : decode cX7_listen 36 = .ok (.aload_n 0, 1) := by decide +kernel
theorem dX7_listen_37 : decode cX7_listen 37 = .ok (.getfield 55, 3) := by decide +kernel
theorem dX7_listen_40 : decode cX7_listen 40 = .ok (.aload_n 0, 1) := by decide +kernel
theorem dX7_listen_41 : decode cX7_listen 41 = .ok (.getfield 10, 3) := by decide +kernel
theorem dX7_listen_44 : decode cX7_listen 44 = .ok (.invokevirtual 238, 3) := by decide +kernel
theorem dX7_listen_47 : decode cX7_listen 47 = .ok (.iload_n 1, 1) := by decide +kernel
theorem dX7_listen_48 : decode cX7_listen 48 = .ok (.ifCond .ne 13, 3) := by decide +kernel
theorem dX7_listen_51 : decode cX7_listen 51 = .ok (.aload_n 0, 1) := by decide +kernel
theorem dX7_listen_52 : decode cX7_listen 52 = .ok (.getfield 55, 3) := by decide +kernel
theorem dX7_listen_55 : decode cX7_listen 55 = .ok (.getfield 241, 3) := by decide +kernel
theorem dX7_listen_58 : decode cX7_listen 58 = .ok (.goto 10, 3) := by decide +kernel
theorem dX7_listen_61 : decode cX7_listen 61 = .ok (.aload_n 0, 1) := by decide +kernel
theorem dX7_listen_62 : decode cX7_listen 62 = .ok (.getfield 55, 3) := by decide +kernel
theorem dX7_listen_65 : decode cX7_listen 65 = .ok (.getfield 244, 3) := by decide +kernel
theorem dX7_listen_68 : decode cX7_listen 68 = .ok (.ireturn, 1) := by decide +kernel
set_option maxRecDepth 20000 in
theorem ggX7_cold_X7_isGallery : GoodIn wsX7_cold wsX7_isGallery := goodIn_r _ [9] (by decide +kernel) (by decide +kernel)
set_option maxRecDepth 20000 in
theorem gX7_cold_X7_isGallery : GoodIn wsX7_cold (va_wsS RX7 66 yX7_isGallery wsX7_isGallery) := goodIn_app (goodIn_of _ (by decide +kernel)) ggX7_cold_X7_isGallery
set_option maxRecDepth 20000 in
theorem ggX7_cold_X1_singersIn : GoodIn wsX7_cold wsX1_singersIn := goodIn_r _ [14, 15, 16, 17, 18, 13, 19, 20, 39, 40, 41, 42, 43, 44, 45, 46, 47, 48, 49, 50, 51, 52, 53, 54] (by decide +kernel) (by decide +kernel)
set_option maxRecDepth 20000 in
theorem gX7_cold_X1_singersIn : GoodIn wsX7_cold (wsV RX7 251 RX1 yX1_singersIn wsX1_singersIn) := goodIn_app (goodIn_of _ (by decide +kernel)) ggX7_cold_X1_singersIn
set_option maxRecDepth 20000 in
theorem ggX7_cold_X7_power : GoodIn wsX7_cold wsX7_power := goodIn_r _ [23] (by decide +kernel) (by decide +kernel)
set_option maxRecDepth 20000 in
theorem gX7_cold_X7_power : GoodIn wsX7_cold (va_wsS RX7 258 yX7_power wsX7_power) := goodIn_app (goodIn_of _ (by decide +kernel)) ggX7_cold_X7_power
set_option maxRecDepth 20000 in
theorem ggX7_cold_X7_lowestTerms : GoodIn wsX7_cold wsX7_lowestTerms := goodIn_r _ [26, 27, 28, 8, 29] (by decide +kernel) (by decide +kernel)
set_option maxRecDepth 20000 in
theorem gX7_cold_X7_lowestTerms : GoodIn wsX7_cold (va_wsS RX7 262 yX7_lowestTerms wsX7_lowestTerms) := goodIn_app (goodIn_of _ (by decide +kernel)) ggX7_cold_X7_lowestTerms
theorem dX7_cold_0 : decode cX7_cold 0 = .ok (.iload_n 1, 1) := by decide +kernel
theorem dX7_cold_1 : decode cX7_cold 1 = .ok (.invokestatic 66, 3) := by decide +kernel
theorem dX7_cold_4 : decode cX7_cold 4 = .ok (.ifCond .ne 7, 3) := by decide +kernel
theorem dX7_cold_7 : decode cX7_cold 7 = .ok (.ldc2_w 247, 3) := by decide +kernel
theorem dX7_cold_10 : decode cX7_cold 10 = .ok (.lreturn, 1) := by decide +kernel
theorem dX7_cold_11 : decode cX7_cold 11 = .ok (.iload_n 2, 1) := by decide +kernel
theorem dX7_cold_12 : decode cX7_cold 12 = .ok (.ifCond .lt 41, 3) := by decide +kernel
theorem dX7_cold_15 : decode cX7_cold 15 = .ok (.iload_n 2, 1) := by decide +kernel
theorem dX7_cold_16 : decode cX7_cold 16 = .ok (.bipush 10, 2) := by decide +kernel
theorem dX7_cold_18 : decode cX7_cold 18 = .ok (.if_icmp .gt 35, 3) := by decide +kernel
theorem dX7_cold_21 : decode cX7_cold 21 = .ok (.iload_n 3, 1) := by decide +kernel
theorem dX7_cold_22 : decode cX7_cold 22 = .ok (.ifCond .lt 31, 3) := by decide +kernel
theorem dX7_cold_25 : decode cX7_cold 25 = .ok (.iload_n 3, 1) := by decide +kernel
theorem dX7_cold_26 : decode cX7_cold 26 = .ok (.bipush 9, 2) := by decide +kernel
theorem dX7_cold_28 : decode cX7_cold 28 = .ok (.if_icmp .gt 25, 3) := by decide +kernel
theorem dX7_cold_31 : decode cX7_cold 31 = .ok (.iload 4, 2) := by decide +kernel
theorem dX7_cold_33 : decode cX7_cold 33 = .ok (.ifCond .lt 20, 3) := by decide +kernel
theorem dX7_cold_36 : decode cX7_cold 36 = .ok (.iload 4, 2) := by decide +kernel
theorem dX7_cold_38 : decode cX7_cold 38 = .ok (.iconst 1, 1) := by decide +kernel
theorem dX7_cold_39 : decode cX7_cold 39 = .ok (.if_icmp .gt 14, 3) := by decide +kernel
theorem dX7_cold_42 : decode cX7_cold 42 = .ok (.iload 5, 2) := by decide +kernel
theorem dX7_cold_44 : decode cX7_cold 44 = .ok (.ifCond .lt 9, 3) := by decide +kernel
theorem dX7_cold_47 : decode cX7_cold 47 = .ok (.iload 5, 2) := by decide +kernel
theorem dX7_cold_49 : decode cX7_cold 49 = .ok (.iconst 1, 1) := by decide +kernel
theorem dX7_cold_50 : decode cX7_cold 50 = .ok (.if_icmp .le 7, 3) := by decide +kernel
theorem dX7_cold_53 : decode cX7_cold 53 = .ok (.ldc2_w 249, 3) := by decide +kernel
theorem dX7_cold_56 : decode cX7_cold 56 = .ok (.lreturn, 1) := by decide +kernel
theorem dX7_cold_57 : decode cX7_cold 57 = .ok (.aload_n 0, 1) := by decide +kernel
theorem dX7_cold_58 : decode cX7_cold 58 = .ok (.getfield 10, 3) := by decide +kernel
theorem dX7_cold_61 : decode cX7_cold 61 = .ok (.iload_n 1, 1) := by decide +kernel
theorem dX7_cold_62 : decode cX7_cold 62 = .ok (.invokevirtual 251, 3) := by decide +kernel
theorem dX7_cold_65 : decode cX7_cold 65 = .ok (.istore 6, 2) := by decide +kernel
theorem dX7_cold_67 : decode cX7_cold 67 = .ok (.iload 4, 2) := by decide +kernel
theorem dX7_cold_69 : decode cX7_cold 69 = .ok (.ifCond .ne 16, 3) := by decide +kernel
theorem dX7_cold_72 : decode cX7_cold 72 = .ok (.iload_n 3, 1) := by decide +kernel
theorem dX7_cold_73 : decode cX7_cold 73 = .ok (.iload 6, 2) := by decide +kernel
theorem dX7_cold_75 : decode cX7_cold 75 = .ok (.imul, 1) := by decide +kernel
theorem dX7_cold_76 : decode cX7_cold 76 = .ok (.bipush 18, 2) := by decide +kernel
theorem dX7_cold_78 : decode cX7_cold 78 = .ok (.if_icmp .le 7, 3) := by decide +kernel
theorem dX7_cold_81 : decode cX7_cold 81 = .ok (.ldc2_w 254, 3) := by decide +kernel
theorem dX7_cold_84 : decode cX7_cold 84 = .ok (.lreturn, 1) := by decide +kernel
theorem dX7_cold_85 : decode cX7_cold 85 = .ok (.ldc2_w 256, 3) := by decide +kernel
theorem dX7_cold_88 : decode cX7_cold 88 = .ok (.iload_n 3, 1) := by decide +kernel
theorem dX7_cold_89 : decode cX7_cold 89 = .ok (.invokestatic 258, 3) := by decide +kernel
theorem dX7_cold_92 : decode cX7_cold 92 = .ok (.lstore 7, 2) := by decide +kernel
theorem dX7_cold_94 : decode cX7_cold 94 = .ok (.bipush 10, 2) := by decide +kernel
theorem dX7_cold_96 : decode cX7_cold 96 = .ok (.iload_n 2, 1) := by decide +kernel
theorem dX7_cold_97 : decode cX7_cold 97 = .ok (.isub, 1) := by decide +kernel
theorem dX7_cold_98 : decode cX7_cold 98 = .ok (.i2l, 1) := by decide +kernel
theorem dX7_cold_99 : decode cX7_cold 99 = .ok (.iload_n 3, 1) := by decide +kernel
theorem dX7_cold_100 : decode cX7_cold 100 = .ok (.invokestatic 258, 3) := by decide +kernel
theorem dX7_cold_103 : decode cX7_cold 103 = .ok (.lstore 9, 2) := by decide +kernel
theorem dX7_cold_105 : decode cX7_cold 105 = .ok (.iload 4, 2) := by decide +kernel
theorem dX7_cold_107 : decode cX7_cold 107 = .ok (.iconst 1, 1) := by decide +kernel
theorem dX7_cold_108 : decode cX7_cold 108 = .ok (.if_icmp .ne 17, 3) := by decide +kernel
theorem dX7_cold_111 : decode cX7_cold 111 = .ok (.iload 6, 2) := by decide +kernel
theorem dX7_cold_113 : decode cX7_cold 113 = .ok (.i2l, 1) := by decide +kernel
theorem dX7_cold_114 : decode cX7_cold 114 = .ok (.lload 9, 2) := by decide +kernel
theorem dX7_cold_116 : decode cX7_cold 116 = .ok (.lmul, 1) := by decide +kernel
theorem dX7_cold_117 : decode cX7_cold 117 = .ok (.lload 7, 2) := by decide +kernel
theorem dX7_cold_119 : decode cX7_cold 119 = .ok (.iload 5, 2) := by decide +kernel
theorem dX7_cold_121 : decode cX7_cold 121 = .ok (.invokestatic 262, 3) := by decide +kernel
theorem dX7_cold_124 : decode cX7_cold 124 = .ok (.lreturn, 1) := by decide +kernel
theorem dX7_cold_125 : decode cX7_cold 125 = .ok (.lload 7, 2) := by decide +kernel
theorem dX7_cold_127 : decode cX7_cold 127 = .ok (.iload 6, 2) := by decide +kernel
theorem dX7_cold_129 : decode cX7_cold 129 = .ok (.invokestatic 258, 3) := by decide +kernel
theorem dX7_cold_132 : decode cX7_cold 132 = .ok (.lstore 11, 2) := by decide +kernel
theorem dX7_cold_134 : decode cX7_cold 134 = .ok (.lload 11, 2) := by decide +kernel
theorem dX7_cold_136 : decode cX7_cold 136 = .ok (.lload 7, 2) := by decide +kernel
theorem dX7_cold_138 : decode cX7_cold 138 = .ok (.lload 9, 2) := by decide +kernel
theorem dX7_cold_140 : decode cX7_cold 140 = .ok (.lsub, 1) := by decide +kernel
theorem dX7_cold_141 : decode cX7_cold 141 = .ok (.iload 6, 2) := by decide +kernel
theorem dX7_cold_143 : decode cX7_cold 143 = .ok (.invokestatic 258, 3) := by decide +kernel
theorem dX7_cold_146 : decode cX7_cold 146 = .ok (.lsub, 1) := by decide +kernel
theorem dX7_cold_147 : decode cX7_cold 147 = .ok (.lload 11, 2) := by decide +kernel
theorem dX7_cold_149 : decode cX7_cold 149 = .ok (.iload 5, 2) := by decide +kernel
theorem dX7_cold_151 : decode cX7_cold 151 = .ok (.invokestatic 262, 3) := by decide +kernel
theorem dX7_cold_154 : decode cX7_cold 154 = .ok (.lreturn, 1) := by decide +kernel
set_option maxRecDepth 20000 in
theorem ggX7_year_X4_drawActs : GoodIn wsX7_year wsX4_drawActs := goodIn_r _ [10, 11, 12, 13, 14, 15, 16, 17, 18, 19, 20, 21, 22, 23, 24, 25, 26, 27, 28, 29, 30, 31, 32, 33, 34, 35, 36, 37, 38, 39, 40, 9, 41, 42, 43, 44, 45, 46, 47, 48, 49, 50, 51, 52, 53, 54, 55, 56, 57, 58, 59, 60, 61, 62, 63, 64, 65, 66, 67, 68, 69, 70, 71, 72, 73, 74, 75, 76, 77, 78, 79, 80, 81, 82, 83, 84, 85, 86, 87, 88, 89, 90, 91, 92, 93, 94, 95, 96, 97, 98, 99, 100, 101, 102, 103, 104, 105, 106, 107, 108, 109, 110, 111, 112, 113, 114, 115, 116, 117, 118, 119, 120, 121, 122, 123, 124, 125, 126, 127, 128, 129, 130, 131, 132, 159, 160, 161, 162, 163, 164, 168, 169, 170, 171, 172, 173, 174, 175, 176, 177, 178, 179, 180, 181, 182, 183, 165, 166, 167] (by decide +kernel) (by decide +kernel)
set_option maxRecDepth 20000 in
theorem gX7_year_X4_drawActs : GoodIn wsX7_year (wsV RX7 266 RX4 yX4_drawActs wsX4_drawActs) := goodIn_app (goodIn_of _ (by decide +kernel)) ggX7_year_X4_drawActs
set_option maxRecDepth 20000 in
theorem ggX7_year_X1_coalInAll : GoodIn wsX7_year wsX1_coalInAll := goodIn_r _ [136, 30, 168, 169, 170, 171, 172, 173, 174, 175, 176, 177, 178, 179, 180, 181, 182, 183] (by decide +kernel) (by decide +kernel)
set_option maxRecDepth 20000 in
theorem gX7_year_X1_coalInAll : GoodIn wsX7_year (wsV RX7 170 RX1 yX1_coalInAll wsX1_coalInAll) := goodIn_app (goodIn_of _ (by decide +kernel)) ggX7_year_X1_coalInAll
set_option maxRecDepth 20000 in
theorem ggX7_year_X1_singing : GoodIn wsX7_year wsX1_singing := goodIn_r _ [140, 141, 92, 93, 17, 94, 36, 168, 169, 170, 171, 172, 173, 174, 175, 176, 177, 178, 179, 180, 181, 182, 183] (by decide +kernel) (by decide +kernel)
set_option maxRecDepth 20000 in
theorem gX7_year_X1_singing : GoodIn wsX7_year (wsV RX7 204 RX1 yX1_singing wsX1_singing) := goodIn_app (goodIn_of _ (by decide +kernel)) ggX7_year_X1_singing
set_option maxRecDepth 20000 in
theorem ggX7_year_J6_bitCount_0f7a4 : GoodIn wsX7_year wsJ6_bitCount_0f7a4 := goodIn_r _ [145, 146, 147, 148] (by decide +kernel) (by decide +kernel)
set_option maxRecDepth 20000 in
theorem gX7_year_J6_bitCount_0f7a4 : GoodIn wsX7_year (va_wsS RX7 110 yJ6_bitCount_0f7a4 wsJ6_bitCount_0f7a4) := goodIn_app (goodIn_of _ (by decide +kernel)) ggX7_year_J6_bitCount_0f7a4
set_option maxRecDepth 20000 in
theorem ggX7_year_X0_shineOn : GoodIn wsX7_year wsX0_shineOn := goodIn_r _ [75, 76, 77, 78, 79, 80, 81, 82, 83, 84, 26, 27, 28, 85, 86, 87, 88, 89, 90, 91, 92, 93, 17, 94, 36, 95, 96, 97, 98, 19, 35, 62, 60, 63, 99, 100, 101, 102, 103, 104, 105, 106, 107, 108, 109, 165, 166, 167, 168, 169, 170, 171, 172, 173, 174, 175, 176, 177, 178, 179, 180, 181, 182, 183] (by decide +kernel) (by decide +kernel)
set_option maxRecDepth 20000 in
theorem gX7_year_X0_shineOn : GoodIn wsX7_year (wsV RX7 158 RX0 yX0_shineOn wsX0_shineOn) := goodIn_app (goodIn_of _ (by decide +kernel)) ggX7_year_X0_shineOn
theorem dX7_year_0 : decode cX7_year 0 = .ok (.iload_n 1, 1) := by decide +kernel
theorem dX7_year_1 : decode cX7_year 1 = .ok (.ifCond .lt 30, 3) := by decide +kernel
theorem dX7_year_4 : decode cX7_year 4 = .ok (.iload_n 1, 1) := by decide +kernel
theorem dX7_year_5 : decode cX7_year 5 = .ok (.sipush 9999, 3) := by decide +kernel
theorem dX7_year_8 : decode cX7_year 8 = .ok (.if_icmp .gt 23, 3) := by decide +kernel
theorem dX7_year_11 : decode cX7_year 11 = .ok (.iload_n 2, 1) := by decide +kernel
theorem dX7_year_12 : decode cX7_year 12 = .ok (.iconst 1, 1) := by decide +kernel
theorem dX7_year_13 : decode cX7_year 13 = .ok (.if_icmp .lt 18, 3) := by decide +kernel
theorem dX7_year_16 : decode cX7_year 16 = .ok (.iload_n 2, 1) := by decide +kernel
theorem dX7_year_17 : decode cX7_year 17 = .ok (.bipush 99, 2) := by decide +kernel
theorem dX7_year_19 : decode cX7_year 19 = .ok (.if_icmp .gt 12, 3) := by decide +kernel
theorem dX7_year_22 : decode cX7_year 22 = .ok (.iload_n 3, 1) := by decide +kernel
theorem dX7_year_23 : decode cX7_year 23 = .ok (.ifCond .lt 8, 3) := by decide +kernel
theorem dX7_year_26 : decode cX7_year 26 = .ok (.iload_n 3, 1) := by decide +kernel
theorem dX7_year_27 : decode cX7_year 27 = .ok (.iconst 2, 1) := by decide +kernel
theorem dX7_year_28 : decode cX7_year 28 = .ok (.if_icmp .le 6, 3) := by decide +kernel
theorem dX7_year_31 : decode cX7_year 31 = .ok (.bipush (-2), 2) := by decide +kernel
theorem dX7_year_33 : decode cX7_year 33 = .ok (.ireturn, 1) := by decide +kernel
theorem dX7_year_34 : decode cX7_year 34 = .ok (.aload_n 0, 1) := by decide +kernel
theorem dX7_year_35 : decode cX7_year 35 = .ok (.getfield 41, 3) := by decide +kernel
theorem dX7_year_38 : decode cX7_year 38 = .ok (.aload_n 0, 1) := by decide +kernel
theorem dX7_year_39 : decode cX7_year 39 = .ok (.getfield 10, 3) := by decide +kernel
theorem dX7_year_42 : decode cX7_year 42 = .ok (.iload_n 1, 1) := by decide +kernel
theorem dX7_year_43 : decode cX7_year 43 = .ok (.iload_n 2, 1) := by decide +kernel
theorem dX7_year_44 : decode cX7_year 44 = .ok (.invokevirtual 266, 3) := by decide +kernel
theorem dX7_year_47 : decode cX7_year 47 = .ok (.iload_n 3, 1) := by decide +kernel
theorem dX7_year_48 : decode cX7_year 48 = .ok (.ifCond .ne 14, 3) := by decide +kernel
theorem dX7_year_51 : decode cX7_year 51 = .ok (.aload_n 0, 1) := by decide +kernel
theorem dX7_year_52 : decode cX7_year 52 = .ok (.getfield 41, 3) := by decide +kernel
theorem dX7_year_55 : decode cX7_year 55 = .ok (.getfield 142, 3) := by decide +kernel
theorem dX7_year_58 : decode cX7_year 58 = .ok (.invokevirtual 170, 3) := by decide +kernel
theorem dX7_year_61 : decode cX7_year 61 = .ok (.ireturn, 1) := by decide +kernel
theorem dX7_year_62 : decode cX7_year 62 = .ok (.iload_n 3, 1) := by decide +kernel
theorem dX7_year_63 : decode cX7_year 63 = .ok (.iconst 2, 1) := by decide +kernel
theorem dX7_year_64 : decode cX7_year 64 = .ok (.if_icmp .ne 17, 3) := by decide +kernel
theorem dX7_year_67 : decode cX7_year 67 = .ok (.aload_n 0, 1) := by decide +kernel
theorem dX7_year_68 : decode cX7_year 68 = .ok (.getfield 41, 3) := by decide +kernel
theorem dX7_year_71 : decode cX7_year 71 = .ok (.getfield 142, 3) := by decide +kernel
theorem dX7_year_74 : decode cX7_year 74 = .ok (.invokevirtual 204, 3) := by decide +kernel
theorem dX7_year_77 : decode cX7_year 77 = .ok (.invokestatic 110, 3) := by decide +kernel
theorem dX7_year_80 : decode cX7_year 80 = .ok (.ireturn, 1) := by decide +kernel
theorem dX7_year_81 : decode cX7_year 81 = .ok (.aload_n 0, 1) := by decide +kernel
theorem dX7_year_82 : decode cX7_year 82 = .ok (.getfield 34, 3) := by decide +kernel
theorem dX7_year_85 : decode cX7_year 85 = .ok (.aload_n 0, 1) := by decide +kernel
theorem dX7_year_86 : decode cX7_year 86 = .ok (.getfield 41, 3) := by decide +kernel
theorem dX7_year_89 : decode cX7_year 89 = .ok (.getfield 142, 3) := by decide +kernel
theorem dX7_year_92 : decode cX7_year 92 = .ok (.invokevirtual 158, 3) := by decide +kernel
theorem dX7_year_95 : decode cX7_year 95 = .ok (.aload_n 0, 1) := by decide +kernel
theorem dX7_year_96 : decode cX7_year 96 = .ok (.getfield 34, 3) := by decide +kernel
theorem dX7_year_99 : decode cX7_year 99 = .ok (.getfield 164, 3) := by decide +kernel
theorem dX7_year_102 : decode cX7_year 102 = .ok (.invokestatic 110, 3) := by decide +kernel
theorem dX7_year_105 : decode cX7_year 105 = .ok (.ireturn, 1) := by decide +kernel
set_option maxRecDepth 20000 in
theorem ggX7_image_X1_become : GoodIn wsX7_image wsX1_become := goodIn_r _ [8, 9, 10, 11, 12, 13, 14, 15, 16, 17, 18, 19, 20, 21, 22, 23, 24, 25, 26, 27, 28, 38, 39, 40, 41, 42, 43, 44, 45, 46, 47, 48, 49, 50, 51, 52, 53] (by decide +kernel) (by decide +kernel)
set_option maxRecDepth 20000 in
theorem gX7_image_X1_become : GoodIn wsX7_image (wsV RX7 145 RX1 yX1_become wsX1_become) := goodIn_app (goodIn_of _ (by decide +kernel)) ggX7_image_X1_become
theorem dX7_image_0 : decode cX7_image 0 = .ok (.iload_n 1, 1) := by decide +kernel
theorem dX7_image_1 : decode cX7_image 1 = .ok (.ifCond .lt 8, 3) := by decide +kernel
theorem dX7_image_4 : decode cX7_image 4 = .ok (.iload_n 1, 1) := by decide +kernel
theorem dX7_image_5 : decode cX7_image 5 = .ok (.iconst 2, 1) := by decide +kernel
theorem dX7_image_6 : decode cX7_image 6 = .ok (.if_icmp .lt 6, 3) := by decide +kernel
theorem dX7_image_9 : decode cX7_image 9 = .ok (.bipush (-2), 2) := by decide +kernel
theorem dX7_image_11 : decode cX7_image 11 = .ok (.ireturn, 1) := by decide +kernel
theorem dX7_image_12 : decode cX7_image 12 = .ok (.aload_n 0, 1) := by decide +kernel
theorem dX7_image_13 : decode cX7_image 13 = .ok (.getfield 16, 3) := by decide +kernel
theorem dX7_image_16 : decode cX7_image 16 = .ok (.iload_n 1, 1) := by decide +kernel
theorem dX7_image_17 : decode cX7_image 17 = .ok (.aaload, 1) := by decide +kernel
theorem dX7_image_18 : decode cX7_image 18 = .ok (.aload_n 0, 1) := by decide +kernel
theorem dX7_image_19 : decode cX7_image 19 = .ok (.getfield 10, 3) := by decide +kernel
theorem dX7_image_22 : decode cX7_image 22 = .ok (.invokevirtual 145, 3) := by decide +kernel
theorem dX7_image_25 : decode cX7_image 25 = .ok (.aload_n 0, 1) := by decide +kernel
theorem dX7_image_26 : decode cX7_image 26 = .ok (.getfield 20, 3) := by decide +kernel
theorem dX7_image_29 : decode cX7_image 29 = .ok (.iload_n 1, 1) := by decide +kernel
theorem dX7_image_30 : decode cX7_image 30 = .ok (.iconst 1, 1) := by decide +kernel
theorem dX7_image_31 : decode cX7_image 31 = .ok (.bastore, 1) := by decide +kernel
theorem dX7_image_32 : decode cX7_image 32 = .ok (.iconst 1, 1) := by decide +kernel
theorem dX7_image_33 : decode cX7_image 33 = .ok (.ireturn, 1) := by decide +kernel
set_option maxRecDepth 20000 in
theorem ggX7_restore_X1_become : GoodIn wsX7_restore wsX1_become := goodIn_r _ [8, 9, 10, 11, 12, 13, 14, 15, 16, 17, 18, 19, 20, 21, 22, 23, 24, 25, 26, 27, 28, 38, 39, 40, 41, 42, 43, 44, 45, 46, 47, 48, 49, 50, 51, 52, 53] (by decide +kernel) (by decide +kernel)
set_option maxRecDepth 20000 in
theorem gX7_restore_X1_become : GoodIn wsX7_restore (wsV RX7 145 RX1 yX1_become wsX1_become) := goodIn_app (goodIn_of _ (by decide +kernel)) ggX7_restore_X1_become
theorem dX7_restore_0 : decode cX7_restore 0 = .ok (.iload_n 1, 1) := by decide +kernel
theorem dX7_restore_1 : decode cX7_restore 1 = .ok (.ifCond .lt 8, 3) := by decide +kernel
theorem dX7_restore_4 : decode cX7_restore 4 = .ok (.iload_n 1, 1) := by decide +kernel
theorem dX7_restore_5 : decode cX7_restore 5 = .ok (.iconst 2, 1) := by decide +kernel
theorem dX7_restore_6 : decode cX7_restore 6 = .ok (.if_icmp .lt 6, 3) := by decide +kernel
theorem dX7_restore_9 : decode cX7_restore 9 = .ok (.bipush (-2), 2) := by decide +kernel
theorem dX7_restore_11 : decode cX7_restore 11 = .ok (.ireturn, 1) := by decide +kernel
theorem dX7_restore_12 : decode cX7_restore 12 = .ok (.aload_n 0, 1) := by decide +kernel
theorem dX7_restore_13 : decode cX7_restore 13 = .ok (.getfield 20, 3) := by decide +kernel
theorem dX7_restore_16 : decode cX7_restore 16 = .ok (.iload_n 1, 1) := by decide +kernel
theorem dX7_restore_17 : decode cX7_restore 17 = .ok (.baload, 1) := by decide +kernel
theorem dX7_restore_18 : decode cX7_restore 18 = .ok (.ifCond .ne 6, 3) := by decide +kernel
theorem dX7_restore_21 : decode cX7_restore 21 = .ok (.bipush (-3), 2) := by decide +kernel
theorem dX7_restore_23 : decode cX7_restore 23 = .ok (.ireturn, 1) := by decide +kernel
theorem dX7_restore_24 : decode cX7_restore 24 = .ok (.aload_n 0, 1) := by decide +kernel
theorem dX7_restore_25 : decode cX7_restore 25 = .ok (.getfield 10, 3) := by decide +kernel
theorem dX7_restore_28 : decode cX7_restore 28 = .ok (.aload_n 0, 1) := by decide +kernel
theorem dX7_restore_29 : decode cX7_restore 29 = .ok (.getfield 16, 3) := by decide +kernel
theorem dX7_restore_32 : decode cX7_restore 32 = .ok (.iload_n 1, 1) := by decide +kernel
theorem dX7_restore_33 : decode cX7_restore 33 = .ok (.aaload, 1) := by decide +kernel
theorem dX7_restore_34 : decode cX7_restore 34 = .ok (.invokevirtual 145, 3) := by decide +kernel
theorem dX7_restore_37 : decode cX7_restore 37 = .ok (.iconst 1, 1) := by decide +kernel
theorem dX7_restore_38 : decode cX7_restore 38 = .ok (.ireturn, 1) := by decide +kernel
set_option maxRecDepth 20000 in
theorem ggX7_told_X7_toldOfGallery : GoodIn wsX7_told wsX7_toldOfGallery := goodIn_r _ [5, 6, 7, 8, 9, 10, 11, 4, 12, 95, 96, 97, 98, 99, 100, 101, 102, 103, 104, 105, 106, 107, 108, 109, 110, 111, 112, 113, 114, 115, 116, 117, 118, 119] (by decide +kernel) (by decide +kernel)
set_option maxRecDepth 20000 in
theorem gX7_told_X7_toldOfGallery : GoodIn wsX7_told (wsV RX7 270 RX7 yX7_toldOfGallery wsX7_toldOfGallery) := goodIn_app (goodIn_of _ (by decide +kernel)) ggX7_told_X7_toldOfGallery
set_option maxRecDepth 20000 in
theorem ggX7_told_X7_toldOfVoice : GoodIn wsX7_told wsX7_toldOfVoice := goodIn_r _ [16, 6, 17, 18, 19, 20, 21, 22, 23, 24, 25, 26, 27, 28, 4, 29, 30, 31, 32, 33, 34, 35, 36, 37, 38, 39, 40, 95, 96, 97, 98, 99, 100, 101, 102, 103, 104, 105, 106, 107, 108, 109, 110, 111, 112, 113, 114, 115, 116, 117, 118, 119] (by decide +kernel) (by decide +kernel)
set_option maxRecDepth 20000 in
theorem gX7_told_X7_toldOfVoice : GoodIn wsX7_told (wsV RX7 274 RX7 yX7_toldOfVoice wsX7_toldOfVoice) := goodIn_app (goodIn_of _ (by decide +kernel)) ggX7_told_X7_toldOfVoice
set_option maxRecDepth 20000 in
theorem ggX7_told_X7_toldOfAll : GoodIn wsX7_told wsX7_toldOfAll := goodIn_r _ [44, 45, 46, 6, 47, 48, 49, 50, 51, 52, 53, 54, 55, 56, 57, 58, 59, 60, 61, 62, 63, 64, 65, 66, 67, 68, 69, 70, 71, 72, 73, 74, 75, 76, 77, 38, 39, 25, 40, 36, 78, 79, 80, 81, 82, 83, 30, 4, 31, 84, 85, 86, 87, 88, 89, 90, 91, 92, 93, 94, 95, 96, 97, 98, 99, 100, 101, 102, 103, 120, 121, 122, 123, 124, 125, 126, 104, 105, 106, 107, 108, 109, 110, 111, 112, 113, 114, 115, 116, 117, 118, 119, 127, 128, 129] (by decide +kernel) (by decide +kernel)
set_option maxRecDepth 20000 in
theorem gX7_told_X7_toldOfAll : GoodIn wsX7_told (wsV RX7 277 RX7 yX7_toldOfAll wsX7_toldOfAll) := goodIn_app (goodIn_of _ (by decide +kernel)) ggX7_told_X7_toldOfAll
theorem dX7_told_0 : decode cX7_told 0 = .ok (.iload_n 1, 1) := by decide +kernel
theorem dX7_told_1 : decode cX7_told 1 = .ok (.ifCond .lt 10, 3) := by decide +kernel
theorem dX7_told_4 : decode cX7_told 4 = .ok (.iload_n 1, 1) := by decide +kernel
theorem dX7_told_5 : decode cX7_told 5 = .ok (.sipush 200, 3) := by decide +kernel
theorem dX7_told_8 : decode cX7_told 8 = .ok (.if_icmp .lt 6, 3) := by decide +kernel
theorem dX7_told_11 : decode cX7_told 11 = .ok (.bipush (-2), 2) := by decide +kernel
theorem dX7_told_13 : decode cX7_told 13 = .ok (.ireturn, 1) := by decide +kernel
theorem dX7_told_14 : decode cX7_told 14 = .ok (.iload_n 1, 1) := by decide +kernel
theorem dX7_told_15 : decode cX7_told 15 = .ok (.bipush 100, 2) := by decide +kernel
theorem dX7_told_17 : decode cX7_told 17 = .ok (.if_icmp .lt 19, 3) := by decide +kernel
theorem dX7_told_20 : decode cX7_told 20 = .ok (.aload_n 0, 1) := by decide +kernel
theorem dX7_told_21 : decode cX7_told 21 = .ok (.iload_n 1, 1) := by decide +kernel
theorem dX7_told_22 : decode cX7_told 22 = .ok (.bipush 100, 2) := by decide +kernel
theorem dX7_told_24 : decode cX7_told 24 = .ok (.isub, 1) := by decide +kernel
theorem dX7_told_25 : decode cX7_told 25 = .ok (.bipush 10, 2) := by decide +kernel
theorem dX7_told_27 : decode cX7_told 27 = .ok (.idiv, 1) := by decide +kernel
theorem dX7_told_28 : decode cX7_told 28 = .ok (.iload_n 1, 1) := by decide +kernel
theorem dX7_told_29 : decode cX7_told 29 = .ok (.bipush 10, 2) := by decide +kernel
theorem dX7_told_31 : decode cX7_told 31 = .ok (.irem, 1) := by decide +kernel
theorem dX7_told_32 : decode cX7_told 32 = .ok (.invokevirtual 270, 3) := by decide +kernel
theorem dX7_told_35 : decode cX7_told 35 = .ok (.ireturn, 1) := by decide +kernel
theorem dX7_told_36 : decode cX7_told 36 = .ok (.iload_n 1, 1) := by decide +kernel
theorem dX7_told_37 : decode cX7_told 37 = .ok (.bipush 10, 2) := by decide +kernel
theorem dX7_told_39 : decode cX7_told 39 = .ok (.if_icmp .lt 18, 3) := by decide +kernel
theorem dX7_told_42 : decode cX7_told 42 = .ok (.aload_n 0, 1) := by decide +kernel
theorem dX7_told_43 : decode cX7_told 43 = .ok (.iload_n 1, 1) := by decide +kernel
theorem dX7_told_44 : decode cX7_told 44 = .ok (.bipush 10, 2) := by decide +kernel
theorem dX7_told_46 : decode cX7_told 46 = .ok (.idiv, 1) := by decide +kernel
theorem dX7_told_47 : decode cX7_told 47 = .ok (.iconst 1, 1) := by decide +kernel
theorem dX7_told_48 : decode cX7_told 48 = .ok (.isub, 1) := by decide +kernel
theorem dX7_told_49 : decode cX7_told 49 = .ok (.iload_n 1, 1) := by decide +kernel
theorem dX7_told_50 : decode cX7_told 50 = .ok (.bipush 10, 2) := by decide +kernel
theorem dX7_told_52 : decode cX7_told 52 = .ok (.irem, 1) := by decide +kernel
theorem dX7_told_53 : decode cX7_told 53 = .ok (.invokevirtual 274, 3) := by decide +kernel
theorem dX7_told_56 : decode cX7_told 56 = .ok (.ireturn, 1) := by decide +kernel
theorem dX7_told_57 : decode cX7_told 57 = .ok (.aload_n 0, 1) := by decide +kernel
theorem dX7_told_58 : decode cX7_told 58 = .ok (.iload_n 1, 1) := by decide +kernel
theorem dX7_told_59 : decode cX7_told 59 = .ok (.invokevirtual 277, 3) := by decide +kernel
theorem dX7_told_62 : decode cX7_told 62 = .ok (.ireturn, 1) := by decide +kernel
set_option maxRecDepth 20000 in
theorem ggX7_toldOfAll_X0_shineOn : GoodIn wsX7_toldOfAll wsX0_shineOn := goodIn_r _ [15, 16, 17, 18, 19, 20, 21, 22, 23, 24, 25, 26, 27, 28, 29, 30, 31, 32, 33, 34, 35, 36, 37, 38, 39, 40, 41, 42, 43, 44, 45, 46, 47, 48, 49, 50, 51, 52, 53, 54, 55, 56, 57, 58, 59, 92, 93, 94, 76, 77, 78, 79, 80, 81, 82, 83, 84, 85, 86, 87, 88, 89, 90, 91] (by decide +kernel) (by decide +kernel)
set_option maxRecDepth 20000 in
theorem gX7_toldOfAll_X0_shineOn : GoodIn wsX7_toldOfAll (wsV RX7 158 RX0 yX0_shineOn wsX0_shineOn) := goodIn_app (goodIn_of _ (by decide +kernel)) ggX7_toldOfAll_X0_shineOn
theorem dX7_toldOfAll_0 : decode cX7_toldOfAll 0 = .ok (.iload_n 1, 1) := by decide +kernel
theorem dX7_toldOfAll_1 : decode cX7_toldOfAll 1 = .ok (.tableswitch 110 0 6 #[43, 51, 59, 78, 86, 94, 102], 43) := by decide +kernel
theorem dX7_toldOfAll_44 : decode cX7_toldOfAll 44 = .ok (.aload_n 0, 1) := by decide +kernel
theorem dX7_toldOfAll_45 : decode cX7_toldOfAll 45 = .ok (.getfield 27, 3) := by decide +kernel
theorem dX7_toldOfAll_48 : decode cX7_toldOfAll 48 = .ok (.getfield 119, 3) := by decide +kernel
theorem dX7_toldOfAll_51 : decode cX7_toldOfAll 51 = .ok (.ireturn, 1) := by decide +kernel
theorem dX7_toldOfAll_52 : decode cX7_toldOfAll 52 = .ok (.aload_n 0, 1) := by decide +kernel
theorem dX7_toldOfAll_53 : decode cX7_toldOfAll 53 = .ok (.getfield 10, 3) := by decide +kernel
theorem dX7_toldOfAll_56 : decode cX7_toldOfAll 56 = .ok (.getfield 89, 3) := by decide +kernel
theorem dX7_toldOfAll_59 : decode cX7_toldOfAll 59 = .ok (.ireturn, 1) := by decide +kernel
theorem dX7_toldOfAll_60 : decode cX7_toldOfAll 60 = .ok (.aload_n 0, 1) := by decide +kernel
theorem dX7_toldOfAll_61 : decode cX7_toldOfAll 61 = .ok (.getfield 34, 3) := by decide +kernel
theorem dX7_toldOfAll_64 : decode cX7_toldOfAll 64 = .ok (.aload_n 0, 1) := by decide +kernel
theorem dX7_toldOfAll_65 : decode cX7_toldOfAll 65 = .ok (.getfield 10, 3) := by decide +kernel
theorem dX7_toldOfAll_68 : decode cX7_toldOfAll 68 = .ok (.invokevirtual 158, 3) := by decide +kernel
theorem dX7_toldOfAll_71 : decode cX7_toldOfAll 71 = .ok (.aload_n 0, 1) := by decide +kernel
theorem dX7_toldOfAll_72 : decode cX7_toldOfAll 72 = .ok (.getfield 34, 3) := by decide +kernel
theorem dX7_toldOfAll_75 : decode cX7_toldOfAll 75 = .ok (.getfield 164, 3) := by decide +kernel
theorem dX7_toldOfAll_78 : decode cX7_toldOfAll 78 = .ok (.ireturn, 1) := by decide +kernel
theorem dX7_toldOfAll_79 : decode cX7_toldOfAll 79 = .ok (.aload_n 0, 1) := by decide +kernel
theorem dX7_toldOfAll_80 : decode cX7_toldOfAll 80 = .ok (.getfield 10, 3) := by decide +kernel
theorem dX7_toldOfAll_83 : decode cX7_toldOfAll 83 = .ok (.getfield 167, 3) := by decide +kernel
theorem dX7_toldOfAll_86 : decode cX7_toldOfAll 86 = .ok (.ireturn, 1) := by decide +kernel
theorem dX7_toldOfAll_87 : decode cX7_toldOfAll 87 = .ok (.aload_n 0, 1) := by decide +kernel
theorem dX7_toldOfAll_88 : decode cX7_toldOfAll 88 = .ok (.getfield 10, 3) := by decide +kernel
theorem dX7_toldOfAll_91 : decode cX7_toldOfAll 91 = .ok (.getfield 186, 3) := by decide +kernel
theorem dX7_toldOfAll_94 : decode cX7_toldOfAll 94 = .ok (.ireturn, 1) := by decide +kernel
theorem dX7_toldOfAll_95 : decode cX7_toldOfAll 95 = .ok (.aload_n 0, 1) := by decide +kernel
theorem dX7_toldOfAll_96 : decode cX7_toldOfAll 96 = .ok (.getfield 10, 3) := by decide +kernel
theorem dX7_toldOfAll_99 : decode cX7_toldOfAll 99 = .ok (.getfield 82, 3) := by decide +kernel
theorem dX7_toldOfAll_102 : decode cX7_toldOfAll 102 = .ok (.ireturn, 1) := by decide +kernel
theorem dX7_toldOfAll_103 : decode cX7_toldOfAll 103 = .ok (.aload_n 0, 1) := by decide +kernel
theorem dX7_toldOfAll_104 : decode cX7_toldOfAll 104 = .ok (.getfield 10, 3) := by decide +kernel
theorem dX7_toldOfAll_107 : decode cX7_toldOfAll 107 = .ok (.getfield 220, 3) := by decide +kernel
theorem dX7_toldOfAll_110 : decode cX7_toldOfAll 110 = .ok (.ireturn, 1) := by decide +kernel
theorem dX7_toldOfAll_111 : decode cX7_toldOfAll 111 = .ok (.bipush (-2), 2) := by decide +kernel
theorem dX7_toldOfAll_113 : decode cX7_toldOfAll 113 = .ok (.ireturn, 1) := by decide +kernel
set_option maxRecDepth 20000 in
theorem ggX7_toldOfVoice_X1_isThere : GoodIn wsX7_toldOfVoice wsX1_isThere := goodIn_r _ [11, 12, 13, 14, 15, 16, 17, 36, 37, 38, 39, 40, 41, 42, 43, 44, 45, 46, 47, 48, 49, 50, 51] (by decide +kernel) (by decide +kernel)
set_option maxRecDepth 20000 in
theorem gX7_toldOfVoice_X1_isThere : GoodIn wsX7_toldOfVoice (wsV RX7 116 RX1 yX1_isThere wsX1_isThere) := goodIn_app (goodIn_of _ (by decide +kernel)) ggX7_toldOfVoice_X1_isThere
set_option maxRecDepth 20000 in
theorem ggX7_toldOfVoice_X1_noteOrNone : GoodIn wsX7_toldOfVoice wsX1_noteOrNone := goodIn_r _ [21, 22, 23, 24, 25, 10, 26, 36, 37, 38, 39, 40, 41, 42, 43, 44, 45, 46, 47, 48, 49, 50, 51] (by decide +kernel) (by decide +kernel)
set_option maxRecDepth 20000 in
theorem gX7_toldOfVoice_X1_noteOrNone : GoodIn wsX7_toldOfVoice (wsV RX7 152 RX1 yX1_noteOrNone wsX1_noteOrNone) := goodIn_app (goodIn_of _ (by decide +kernel)) ggX7_toldOfVoice_X1_noteOrNone
theorem dX7_toldOfVoice_0 : decode cX7_toldOfVoice 0 = .ok (.aload_n 0, 1) := by decide +kernel
theorem dX7_toldOfVoice_1 : decode cX7_toldOfVoice 1 = .ok (.getfield 10, 3) := by decide +kernel
theorem dX7_toldOfVoice_4 : decode cX7_toldOfVoice 4 = .ok (.iload_n 1, 1) := by decide +kernel
theorem dX7_toldOfVoice_5 : decode cX7_toldOfVoice 5 = .ok (.invokevirtual 116, 3) := by decide +kernel
theorem dX7_toldOfVoice_8 : decode cX7_toldOfVoice 8 = .ok (.ifCond .ne 6, 3) := by decide +kernel
theorem dX7_toldOfVoice_11 : decode cX7_toldOfVoice 11 = .ok (.bipush (-2), 2) := by decide +kernel
theorem dX7_toldOfVoice_13 : decode cX7_toldOfVoice 13 = .ok (.ireturn, 1) := by decide +kernel
theorem dX7_toldOfVoice_14 : decode cX7_toldOfVoice 14 = .ok (.iload_n 2, 1) := by decide +kernel
theorem dX7_toldOfVoice_15 : decode cX7_toldOfVoice 15 = .ok (.tableswitch 96 0 5 #[37, 47, 57, 67, 77, 87], 37) := by decide +kernel
theorem dX7_toldOfVoice_52 : decode cX7_toldOfVoice 52 = .ok (.aload_n 0, 1) := by decide +kernel
theorem dX7_toldOfVoice_53 : decode cX7_toldOfVoice 53 = .ok (.getfield 10, 3) := by decide +kernel
theorem dX7_toldOfVoice_56 : decode cX7_toldOfVoice 56 = .ok (.getfield 92, 3) := by decide +kernel
theorem dX7_toldOfVoice_59 : decode cX7_toldOfVoice 59 = .ok (.iload_n 1, 1) := by decide +kernel
theorem dX7_toldOfVoice_60 : decode cX7_toldOfVoice 60 = .ok (.iaload, 1) := by decide +kernel
theorem dX7_toldOfVoice_61 : decode cX7_toldOfVoice 61 = .ok (.ireturn, 1) := by decide +kernel
theorem dX7_toldOfVoice_62 : decode cX7_toldOfVoice 62 = .ok (.aload_n 0, 1) := by decide +kernel
theorem dX7_toldOfVoice_63 : decode cX7_toldOfVoice 63 = .ok (.getfield 10, 3) := by decide +kernel
theorem dX7_toldOfVoice_66 : decode cX7_toldOfVoice 66 = .ok (.getfield 95, 3) := by decide +kernel
theorem dX7_toldOfVoice_69 : decode cX7_toldOfVoice 69 = .ok (.iload_n 1, 1) := by decide +kernel
theorem dX7_toldOfVoice_70 : decode cX7_toldOfVoice 70 = .ok (.iaload, 1) := by decide +kernel
theorem dX7_toldOfVoice_71 : decode cX7_toldOfVoice 71 = .ok (.ireturn, 1) := by decide +kernel
theorem dX7_toldOfVoice_72 : decode cX7_toldOfVoice 72 = .ok (.aload_n 0, 1) := by decide +kernel
theorem dX7_toldOfVoice_73 : decode cX7_toldOfVoice 73 = .ok (.getfield 10, 3) := by decide +kernel
theorem dX7_toldOfVoice_76 : decode cX7_toldOfVoice 76 = .ok (.getfield 101, 3) := by decide +kernel
theorem dX7_toldOfVoice_79 : decode cX7_toldOfVoice 79 = .ok (.iload_n 1, 1) := by decide +kernel
theorem dX7_toldOfVoice_80 : decode cX7_toldOfVoice 80 = .ok (.iaload, 1) := by decide +kernel
theorem dX7_toldOfVoice_81 : decode cX7_toldOfVoice 81 = .ok (.ireturn, 1) := by decide +kernel
theorem dX7_toldOfVoice_82 : decode cX7_toldOfVoice 82 = .ok (.aload_n 0, 1) := by decide +kernel
theorem dX7_toldOfVoice_83 : decode cX7_toldOfVoice 83 = .ok (.getfield 10, 3) := by decide +kernel
theorem dX7_toldOfVoice_86 : decode cX7_toldOfVoice 86 = .ok (.getfield 98, 3) := by decide +kernel
theorem dX7_toldOfVoice_89 : decode cX7_toldOfVoice 89 = .ok (.iload_n 1, 1) := by decide +kernel
theorem dX7_toldOfVoice_90 : decode cX7_toldOfVoice 90 = .ok (.iaload, 1) := by decide +kernel
theorem dX7_toldOfVoice_91 : decode cX7_toldOfVoice 91 = .ok (.ireturn, 1) := by decide +kernel
theorem dX7_toldOfVoice_92 : decode cX7_toldOfVoice 92 = .ok (.aload_n 0, 1) := by decide +kernel
theorem dX7_toldOfVoice_93 : decode cX7_toldOfVoice 93 = .ok (.getfield 10, 3) := by decide +kernel
theorem dX7_toldOfVoice_96 : decode cX7_toldOfVoice 96 = .ok (.getfield 104, 3) := by decide +kernel
theorem dX7_toldOfVoice_99 : decode cX7_toldOfVoice 99 = .ok (.iload_n 1, 1) := by decide +kernel
theorem dX7_toldOfVoice_100 : decode cX7_toldOfVoice 100 = .ok (.iaload, 1) := by decide +kernel
theorem dX7_toldOfVoice_101 : decode cX7_toldOfVoice 101 = .ok (.ireturn, 1) := by decide +kernel
theorem dX7_toldOfVoice_102 : decode cX7_toldOfVoice 102 = .ok (.aload_n 0, 1) := by decide +kernel
theorem dX7_toldOfVoice_103 : decode cX7_toldOfVoice 103 = .ok (.getfield 10, 3) := by decide +kernel
theorem dX7_toldOfVoice_106 : decode cX7_toldOfVoice 106 = .ok (.iload_n 1, 1) := by decide +kernel
theorem dX7_toldOfVoice_107 : decode cX7_toldOfVoice 107 = .ok (.invokevirtual 152, 3) := by decide +kernel
theorem dX7_toldOfVoice_110 : decode cX7_toldOfVoice 110 = .ok (.ireturn, 1) := by decide +kernel
theorem dX7_toldOfVoice_111 : decode cX7_toldOfVoice 111 = .ok (.bipush (-2), 2) := by decide +kernel
theorem dX7_toldOfVoice_113 : decode cX7_toldOfVoice 113 = .ok (.ireturn, 1) := by decide +kernel
set_option maxRecDepth 20000 in
theorem ggX7_toldOfGallery_X7_isGallery : GoodIn wsX7_toldOfGallery wsX7_isGallery := goodIn_r _ [8] (by decide +kernel) (by decide +kernel)
set_option maxRecDepth 20000 in
theorem gX7_toldOfGallery_X7_isGallery : GoodIn wsX7_toldOfGallery (va_wsS RX7 66 yX7_isGallery wsX7_isGallery) := goodIn_app (goodIn_of _ (by decide +kernel)) ggX7_toldOfGallery_X7_isGallery
theorem dX7_toldOfGallery_0 : decode cX7_toldOfGallery 0 = .ok (.iload_n 1, 1) := by decide +kernel
theorem dX7_toldOfGallery_1 : decode cX7_toldOfGallery 1 = .ok (.invokestatic 66, 3) := by decide +kernel
theorem dX7_toldOfGallery_4 : decode cX7_toldOfGallery 4 = .ok (.ifCond .ne 6, 3) := by decide +kernel
theorem dX7_toldOfGallery_7 : decode cX7_toldOfGallery 7 = .ok (.bipush (-2), 2) := by decide +kernel
theorem dX7_toldOfGallery_9 : decode cX7_toldOfGallery 9 = .ok (.ireturn, 1) := by decide +kernel
theorem dX7_toldOfGallery_10 : decode cX7_toldOfGallery 10 = .ok (.iload_n 2, 1) := by decide +kernel
theorem dX7_toldOfGallery_11 : decode cX7_toldOfGallery 11 = .ok (.tableswitch 55 0 2 #[25, 35, 45], 25) := by decide +kernel
theorem dX7_toldOfGallery_36 : decode cX7_toldOfGallery 36 = .ok (.aload_n 0, 1) := by decide +kernel
theorem dX7_toldOfGallery_37 : decode cX7_toldOfGallery 37 = .ok (.getfield 10, 3) := by decide +kernel
theorem dX7_toldOfGallery_40 : decode cX7_toldOfGallery 40 = .ok (.getfield 78, 3) := by decide +kernel
theorem dX7_toldOfGallery_43 : decode cX7_toldOfGallery 43 = .ok (.iload_n 1, 1) := by decide +kernel
theorem dX7_toldOfGallery_44 : decode cX7_toldOfGallery 44 = .ok (.iaload, 1) := by decide +kernel
theorem dX7_toldOfGallery_45 : decode cX7_toldOfGallery 45 = .ok (.ireturn, 1) := by decide +kernel
theorem dX7_toldOfGallery_46 : decode cX7_toldOfGallery 46 = .ok (.aload_n 0, 1) := by decide +kernel
theorem dX7_toldOfGallery_47 : decode cX7_toldOfGallery 47 = .ok (.getfield 10, 3) := by decide +kernel
theorem dX7_toldOfGallery_50 : decode cX7_toldOfGallery 50 = .ok (.getfield 155, 3) := by decide +kernel
theorem dX7_toldOfGallery_53 : decode cX7_toldOfGallery 53 = .ok (.iload_n 1, 1) := by decide +kernel
theorem dX7_toldOfGallery_54 : decode cX7_toldOfGallery 54 = .ok (.iaload, 1) := by decide +kernel
theorem dX7_toldOfGallery_55 : decode cX7_toldOfGallery 55 = .ok (.ireturn, 1) := by decide +kernel
theorem dX7_toldOfGallery_56 : decode cX7_toldOfGallery 56 = .ok (.aload_n 0, 1) := by decide +kernel
theorem dX7_toldOfGallery_57 : decode cX7_toldOfGallery 57 = .ok (.getfield 10, 3) := by decide +kernel
theorem dX7_toldOfGallery_60 : decode cX7_toldOfGallery 60 = .ok (.getfield 183, 3) := by decide +kernel
theorem dX7_toldOfGallery_63 : decode cX7_toldOfGallery 63 = .ok (.iload_n 1, 1) := by decide +kernel
theorem dX7_toldOfGallery_64 : decode cX7_toldOfGallery 64 = .ok (.iaload, 1) := by decide +kernel
theorem dX7_toldOfGallery_65 : decode cX7_toldOfGallery 65 = .ok (.ireturn, 1) := by decide +kernel
theorem dX7_toldOfGallery_66 : decode cX7_toldOfGallery 66 = .ok (.bipush (-2), 2) := by decide +kernel
theorem dX7_toldOfGallery_68 : decode cX7_toldOfGallery 68 = .ok (.ireturn, 1) := by decide +kernel
set_option maxRecDepth 20000 in
theorem ggX7_canBeDone_X2_readActs : GoodIn wsX7_canBeDone wsX2_readActs := goodIn_r _ [9, 10, 11, 12, 13, 14, 15, 8, 16, 17, 18, 19, 20, 21, 22, 23, 24, 25, 26, 27, 28, 29, 30, 31, 32, 33, 34, 35, 36, 195, 196, 197, 198, 199, 200, 201] (by decide +kernel) (by decide +kernel)
set_option maxRecDepth 20000 in
theorem gX7_canBeDone_X2_readActs : GoodIn wsX7_canBeDone (wsV RX7 125 RX2 yX2_readActs wsX2_readActs) := goodIn_app (goodIn_of _ (by decide +kernel)) ggX7_canBeDone_X2_readActs
set_option maxRecDepth 20000 in
theorem ggX7_canBeDone_X4_tryActs : GoodIn wsX7_canBeDone wsX4_tryActs := goodIn_r _ [41, 42, 43, 44, 45, 46, 47, 48, 49, 50, 51, 52, 53, 54, 55, 56, 57, 58, 59, 60, 61, 62, 63, 64, 65, 66, 67, 68, 69, 70, 71, 72, 73, 74, 75, 76, 77, 78, 79, 80, 81, 82, 83, 84, 85, 86, 87, 88, 89, 90, 91, 92, 93, 94, 95, 96, 97, 98, 99, 100, 101, 102, 103, 104, 105, 106, 107, 108, 109, 110, 111, 112, 113, 114, 115, 116, 117, 118, 119, 120, 121, 122, 40, 123, 124, 125, 126, 127, 128, 129, 130, 131, 132, 133, 134, 135, 136, 137, 138, 139, 140, 141, 142, 143, 144, 145, 146, 147, 148, 149, 150, 151, 152, 153, 154, 155, 156, 157, 158, 159, 160, 161, 162, 163, 164, 165, 166, 167, 168, 169, 170, 171, 172, 173, 174, 175, 176, 177, 178, 179, 189, 190, 191, 192, 193, 194, 195, 196, 197, 198, 199, 200, 201, 202, 203, 204, 205, 206, 207, 208, 209, 210, 211, 212, 213, 214, 215, 216, 217, 218, 219, 220] (by decide +kernel) (by decide +kernel)
set_option maxRecDepth 20000 in
theorem gX7_canBeDone_X4_tryActs : GoodIn wsX7_canBeDone (wsV RX7 128 RX4 yX4_tryActs wsX4_tryActs) := goodIn_app (goodIn_of _ (by decide +kernel)) ggX7_canBeDone_X4_tryActs
theorem dX7_canBeDone_0 : decode cX7_canBeDone 0 = .ok (.aload_n 0, 1) := by decide +kernel
theorem dX7_canBeDone_1 : decode cX7_canBeDone 1 = .ok (.getfield 27, 3) := by decide +kernel
theorem dX7_canBeDone_4 : decode cX7_canBeDone 4 = .ok (.invokevirtual 125, 3) := by decide +kernel
theorem dX7_canBeDone_7 : decode cX7_canBeDone 7 = .ok (.bipush (-6), 2) := by decide +kernel
theorem dX7_canBeDone_9 : decode cX7_canBeDone 9 = .ok (.if_icmp .eq 5, 3) := by decide +kernel
theorem dX7_canBeDone_12 : decode cX7_canBeDone 12 = .ok (.iconst 0, 1) := by decide +kernel
theorem dX7_canBeDone_13 : decode cX7_canBeDone 13 = .ok (.ireturn, 1) := by decide +kernel
theorem dX7_canBeDone_14 : decode cX7_canBeDone 14 = .ok (.aload_n 0, 1) := by decide +kernel
theorem dX7_canBeDone_15 : decode cX7_canBeDone 15 = .ok (.getfield 41, 3) := by decide +kernel
theorem dX7_canBeDone_18 : decode cX7_canBeDone 18 = .ok (.aload_n 0, 1) := by decide +kernel
theorem dX7_canBeDone_19 : decode cX7_canBeDone 19 = .ok (.getfield 27, 3) := by decide +kernel
theorem dX7_canBeDone_22 : decode cX7_canBeDone 22 = .ok (.aload_n 0, 1) := by decide +kernel
theorem dX7_canBeDone_23 : decode cX7_canBeDone 23 = .ok (.getfield 10, 3) := by decide +kernel
theorem dX7_canBeDone_26 : decode cX7_canBeDone 26 = .ok (.invokevirtual 128, 3) := by decide +kernel
theorem dX7_canBeDone_29 : decode cX7_canBeDone 29 = .ok (.aload_n 0, 1) := by decide +kernel
theorem dX7_canBeDone_30 : decode cX7_canBeDone 30 = .ok (.getfield 41, 3) := by decide +kernel
theorem dX7_canBeDone_33 : decode cX7_canBeDone 33 = .ok (.getfield 132, 3) := by decide +kernel
theorem dX7_canBeDone_36 : decode cX7_canBeDone 36 = .ok (.bipush (-6), 2) := by decide +kernel
theorem dX7_canBeDone_38 : decode cX7_canBeDone 38 = .ok (.if_icmp .ne 7, 3) := by decide +kernel
theorem dX7_canBeDone_41 : decode cX7_canBeDone 41 = .ok (.iconst 1, 1) := by decide +kernel
theorem dX7_canBeDone_42 : decode cX7_canBeDone 42 = .ok (.goto 4, 3) := by decide +kernel
theorem dX7_canBeDone_45 : decode cX7_canBeDone 45 = .ok (.iconst 0, 1) := by decide +kernel
theorem dX7_canBeDone_46 : decode cX7_canBeDone 46 = .ok (.ireturn, 1) := by decide +kernel
set_option maxRecDepth 20000 in
theorem ggX7_isBetter_J6_bitCount_0f7a4 : GoodIn wsX7_isBetter wsJ6_bitCount_0f7a4 := goodIn_r _ [6, 7, 8, 9] (by decide +kernel) (by decide +kernel)
set_option maxRecDepth 20000 in
theorem gX7_isBetter_J6_bitCount_0f7a4 : GoodIn wsX7_isBetter (va_wsS RX7 110 yJ6_bitCount_0f7a4 wsJ6_bitCount_0f7a4) := goodIn_app (goodIn_of _ (by decide +kernel)) ggX7_isBetter_J6_bitCount_0f7a4
set_option maxRecDepth 20000 in
theorem ggX7_isBetter_X7_has : GoodIn wsX7_isBetter wsX7_has := goodIn_r _ [13] (by decide +kernel) (by decide +kernel)
set_option maxRecDepth 20000 in
theorem gX7_isBetter_X7_has : GoodIn wsX7_isBetter (va_wsS RX7 280 yX7_has wsX7_has) := goodIn_app (goodIn_of _ (by decide +kernel)) ggX7_isBetter_X7_has
theorem dX7_isBetter_0 : decode cX7_isBetter 0 = .ok (.iload_n 1, 1) := by decide +kernel
theorem dX7_isBetter_1 : decode cX7_isBetter 1 = .ok (.invokestatic 110, 3) := by decide +kernel
theorem dX7_isBetter_4 : decode cX7_isBetter 4 = .ok (.iload_n 2, 1) := by decide +kernel
theorem dX7_isBetter_5 : decode cX7_isBetter 5 = .ok (.invokestatic 110, 3) := by decide +kernel
theorem dX7_isBetter_8 : decode cX7_isBetter 8 = .ok (.isub, 1) := by decide +kernel
theorem dX7_isBetter_9 : decode cX7_isBetter 9 = .ok (.istore 4, 2) := by decide +kernel
theorem dX7_isBetter_11 : decode cX7_isBetter 11 = .ok (.iload 4, 2) := by decide +kernel
theorem dX7_isBetter_13 : decode cX7_isBetter 13 = .ok (.ifCond .gt 13, 3) := by decide +kernel
theorem dX7_isBetter_16 : decode cX7_isBetter 16 = .ok (.iload 4, 2) := by decide +kernel
theorem dX7_isBetter_18 : decode cX7_isBetter 18 = .ok (.ifCond .ne 10, 3) := by decide +kernel
theorem dX7_isBetter_21 : decode cX7_isBetter 21 = .ok (.iload_n 1, 1) := by decide +kernel
theorem dX7_isBetter_22 : decode cX7_isBetter 22 = .ok (.iload_n 2, 1) := by decide +kernel
theorem dX7_isBetter_23 : decode cX7_isBetter 23 = .ok (.if_icmp .lt 5, 3) := by decide +kernel
theorem dX7_isBetter_26 : decode cX7_isBetter 26 = .ok (.iconst 0, 1) := by decide +kernel
theorem dX7_isBetter_27 : decode cX7_isBetter 27 = .ok (.ireturn, 1) := by decide +kernel
theorem dX7_isBetter_28 : decode cX7_isBetter 28 = .ok (.iload_n 1, 1) := by decide +kernel
theorem dX7_isBetter_29 : decode cX7_isBetter 29 = .ok (.istore 5, 2) := by decide +kernel
theorem dX7_isBetter_31 : decode cX7_isBetter 31 = .ok (.iconst 0, 1) := by decide +kernel
theorem dX7_isBetter_32 : decode cX7_isBetter 32 = .ok (.istore 6, 2) := by decide +kernel
theorem dX7_isBetter_34 : decode cX7_isBetter 34 = .ok (.iload 6, 2) := by decide +kernel
theorem dX7_isBetter_36 : decode cX7_isBetter 36 = .ok (.bipush 10, 2) := by decide +kernel
theorem dX7_isBetter_38 : decode cX7_isBetter 38 = .ok (.if_icmp .ge 35, 3) := by decide +kernel
theorem dX7_isBetter_41 : decode cX7_isBetter 41 = .ok (.iload_n 1, 1) := by decide +kernel
theorem dX7_isBetter_42 : decode cX7_isBetter 42 = .ok (.iload 6, 2) := by decide +kernel
theorem dX7_isBetter_44 : decode cX7_isBetter 44 = .ok (.invokestatic 280, 3) := by decide +kernel
theorem dX7_isBetter_47 : decode cX7_isBetter 47 = .ok (.ifCond .eq 20, 3) := by decide +kernel
theorem dX7_isBetter_50 : decode cX7_isBetter 50 = .ok (.iload 5, 2) := by decide +kernel
theorem dX7_isBetter_52 : decode cX7_isBetter 52 = .ok (.iconst 1, 1) := by decide +kernel
theorem dX7_isBetter_53 : decode cX7_isBetter 53 = .ok (.aload_n 0, 1) := by decide +kernel
theorem dX7_isBetter_54 : decode cX7_isBetter 54 = .ok (.getfield 10, 3) := by decide +kernel
theorem dX7_isBetter_57 : decode cX7_isBetter 57 = .ok (.getfield 78, 3) := by decide +kernel
theorem dX7_isBetter_60 : decode cX7_isBetter 60 = .ok (.iload 6, 2) := by decide +kernel
theorem dX7_isBetter_62 : decode cX7_isBetter 62 = .ok (.iaload, 1) := by decide +kernel
theorem dX7_isBetter_63 : decode cX7_isBetter 63 = .ok (.ishl, 1) := by decide +kernel
theorem dX7_isBetter_64 : decode cX7_isBetter 64 = .ok (.ior, 1) := by decide +kernel
theorem dX7_isBetter_65 : decode cX7_isBetter 65 = .ok (.istore 5, 2) := by decide +kernel
theorem dX7_isBetter_67 : decode cX7_isBetter 67 = .ok (.iinc 6 1, 3) := by decide +kernel
theorem dX7_isBetter_70 : decode cX7_isBetter 70 = .ok (.goto (-36), 3) := by decide +kernel
theorem dX7_isBetter_73 : decode cX7_isBetter 73 = .ok (.iload_n 3, 1) := by decide +kernel
theorem dX7_isBetter_74 : decode cX7_isBetter 74 = .ok (.iload 5, 2) := by decide +kernel
theorem dX7_isBetter_76 : decode cX7_isBetter 76 = .ok (.iconst (-1), 1) := by decide +kernel
theorem dX7_isBetter_77 : decode cX7_isBetter 77 = .ok (.ixor, 1) := by decide +kernel
theorem dX7_isBetter_78 : decode cX7_isBetter 78 = .ok (.iand, 1) := by decide +kernel
theorem dX7_isBetter_79 : decode cX7_isBetter 79 = .ok (.ifCond .ne 7, 3) := by decide +kernel
theorem dX7_isBetter_82 : decode cX7_isBetter 82 = .ok (.iconst 1, 1) := by decide +kernel
theorem dX7_isBetter_83 : decode cX7_isBetter 83 = .ok (.goto 4, 3) := by decide +kernel
theorem dX7_isBetter_86 : decode cX7_isBetter 86 = .ok (.iconst 0, 1) := by decide +kernel
theorem dX7_isBetter_87 : decode cX7_isBetter 87 = .ok (.ireturn, 1) := by decide +kernel
set_option maxRecDepth 20000 in
theorem ggX7_canSingOn_X7_has : GoodIn wsX7_canSingOn wsX7_has := goodIn_r _ [5] (by decide +kernel) (by decide +kernel)
set_option maxRecDepth 20000 in
theorem gX7_canSingOn_X7_has : GoodIn wsX7_canSingOn (va_wsS RX7 280 yX7_has wsX7_has) := goodIn_app (goodIn_of _ (by decide +kernel)) ggX7_canSingOn_X7_has
set_option maxRecDepth 20000 in
theorem ggX7_canSingOn_X1_clash : GoodIn wsX7_canSingOn wsX1_clash := goodIn_r _ [10, 11, 12, 13, 14, 15, 16, 17, 3, 4, 5, 18, 19, 20, 9, 21, 31, 32, 33, 34, 35, 36, 37, 38, 39, 40, 41, 42, 43, 44, 45, 46] (by decide +kernel) (by decide +kernel)
set_option maxRecDepth 20000 in
theorem gX7_canSingOn_X1_clash : GoodIn wsX7_canSingOn (wsV RX7 283 RX1 yX1_clash wsX1_clash) := goodIn_app (goodIn_of _ (by decide +kernel)) ggX7_canSingOn_X1_clash
theorem dX7_canSingOn_0 : decode cX7_canSingOn 0 = .ok (.iconst 0, 1) := by decide +kernel
theorem dX7_canSingOn_1 : decode cX7_canSingOn 1 = .ok (.istore_n 2, 1) := by decide +kernel
theorem dX7_canSingOn_2 : decode cX7_canSingOn 2 = .ok (.iload_n 2, 1) := by decide +kernel
theorem dX7_canSingOn_3 : decode cX7_canSingOn 3 = .ok (.bipush 8, 2) := by decide +kernel
theorem dX7_canSingOn_5 : decode cX7_canSingOn 5 = .ok (.if_icmp .ge 52, 3) := by decide +kernel
theorem dX7_canSingOn_8 : decode cX7_canSingOn 8 = .ok (.iconst 0, 1) := by decide +kernel
theorem dX7_canSingOn_9 : decode cX7_canSingOn 9 = .ok (.istore_n 3, 1) := by decide +kernel
theorem dX7_canSingOn_10 : decode cX7_canSingOn 10 = .ok (.iload_n 3, 1) := by decide +kernel
theorem dX7_canSingOn_11 : decode cX7_canSingOn 11 = .ok (.iload_n 2, 1) := by decide +kernel
theorem dX7_canSingOn_12 : decode cX7_canSingOn 12 = .ok (.if_icmp .ge 39, 3) := by decide +kernel
theorem dX7_canSingOn_15 : decode cX7_canSingOn 15 = .ok (.iload_n 1, 1) := by decide +kernel
theorem dX7_canSingOn_16 : decode cX7_canSingOn 16 = .ok (.iload_n 2, 1) := by decide +kernel
theorem dX7_canSingOn_17 : decode cX7_canSingOn 17 = .ok (.invokestatic 280, 3) := by decide +kernel
theorem dX7_canSingOn_20 : decode cX7_canSingOn 20 = .ok (.ifCond .eq 25, 3) := by decide +kernel
theorem dX7_canSingOn_23 : decode cX7_canSingOn 23 = .ok (.iload_n 1, 1) := by decide +kernel
theorem dX7_canSingOn_24 : decode cX7_canSingOn 24 = .ok (.iload_n 3, 1) := by decide +kernel
theorem dX7_canSingOn_25 : decode cX7_canSingOn 25 = .ok (.invokestatic 280, 3) := by decide +kernel
theorem dX7_canSingOn_28 : decode cX7_canSingOn 28 = .ok (.ifCond .eq 17, 3) := by decide +kernel
theorem dX7_canSingOn_31 : decode cX7_canSingOn 31 = .ok (.aload_n 0, 1) := by decide +kernel
theorem dX7_canSingOn_32 : decode cX7_canSingOn 32 = .ok (.getfield 10, 3) := by decide +kernel
theorem dX7_canSingOn_35 : decode cX7_canSingOn 35 = .ok (.iload_n 2, 1) := by decide +kernel
theorem dX7_canSingOn_36 : decode cX7_canSingOn 36 = .ok (.iload_n 3, 1) := by decide +kernel
theorem dX7_canSingOn_37 : decode cX7_canSingOn 37 = .ok (.invokevirtual 283, 3) := by decide +kernel
theorem dX7_canSingOn_40 : decode cX7_canSingOn 40 = .ok (.ifCond .eq 5, 3) := by decide +kernel
theorem dX7_canSingOn_43 : decode cX7_canSingOn 43 = .ok (.iconst 0, 1) := by decide +kernel
theorem dX7_canSingOn_44 : decode cX7_canSingOn 44 = .ok (.ireturn, 1) := by decide +kernel
theorem dX7_canSingOn_45 : decode cX7_canSingOn 45 = .ok (.iinc 3 1, 3) := by decide +kernel
theorem dX7_canSingOn_48 : decode cX7_canSingOn 48 = .ok (.goto (-38), 3) := by decide +kernel
theorem dX7_canSingOn_51 : decode cX7_canSingOn 51 = .ok (.iinc 2 1, 3) := by decide +kernel
theorem dX7_canSingOn_54 : decode cX7_canSingOn 54 = .ok (.goto (-52), 3) := by decide +kernel
theorem dX7_canSingOn_57 : decode cX7_canSingOn 57 = .ok (.iconst 1, 1) := by decide +kernel
theorem dX7_canSingOn_58 : decode cX7_canSingOn 58 = .ok (.ireturn, 1) := by decide +kernel
theorem dX7_isGallery_0 : decode cX7_isGallery 0 = .ok (.iload_n 0, 1) := by decide +kernel
theorem dX7_isGallery_1 : decode cX7_isGallery 1 = .ok (.ifCond .lt 13, 3) := by decide +kernel
theorem dX7_isGallery_4 : decode cX7_isGallery 4 = .ok (.iload_n 0, 1) := by decide +kernel
theorem dX7_isGallery_5 : decode cX7_isGallery 5 = .ok (.bipush 10, 2) := by decide +kernel
theorem dX7_isGallery_7 : decode cX7_isGallery 7 = .ok (.if_icmp .ge 7, 3) := by decide +kernel
theorem dX7_isGallery_10 : decode cX7_isGallery 10 = .ok (.iconst 1, 1) := by decide +kernel
theorem dX7_isGallery_11 : decode cX7_isGallery 11 = .ok (.goto 4, 3) := by decide +kernel
theorem dX7_isGallery_14 : decode cX7_isGallery 14 = .ok (.iconst 0, 1) := by decide +kernel
theorem dX7_isGallery_15 : decode cX7_isGallery 15 = .ok (.ireturn, 1) := by decide +kernel
theorem dX7_isVoice_0 : decode cX7_isVoice 0 = .ok (.iload_n 0, 1) := by decide +kernel
theorem dX7_isVoice_1 : decode cX7_isVoice 1 = .ok (.ifCond .lt 13, 3) := by decide +kernel
theorem dX7_isVoice_4 : decode cX7_isVoice 4 = .ok (.iload_n 0, 1) := by decide +kernel
theorem dX7_isVoice_5 : decode cX7_isVoice 5 = .ok (.bipush 8, 2) := by decide +kernel
theorem dX7_isVoice_7 : decode cX7_isVoice 7 = .ok (.if_icmp .ge 7, 3) := by decide +kernel
theorem dX7_isVoice_10 : decode cX7_isVoice 10 = .ok (.iconst 1, 1) := by decide +kernel
theorem dX7_isVoice_11 : decode cX7_isVoice 11 = .ok (.goto 4, 3) := by decide +kernel
theorem dX7_isVoice_14 : decode cX7_isVoice 14 = .ok (.iconst 0, 1) := by decide +kernel
theorem dX7_isVoice_15 : decode cX7_isVoice 15 = .ok (.ireturn, 1) := by decide +kernel
theorem dX7_has_0 : decode cX7_has 0 = .ok (.iload_n 0, 1) := by decide +kernel
theorem dX7_has_1 : decode cX7_has 1 = .ok (.iload_n 1, 1) := by decide +kernel
theorem dX7_has_2 : decode cX7_has 2 = .ok (.ishr, 1) := by decide +kernel
theorem dX7_has_3 : decode cX7_has 3 = .ok (.iconst 1, 1) := by decide +kernel
theorem dX7_has_4 : decode cX7_has 4 = .ok (.iand, 1) := by decide +kernel
theorem dX7_has_5 : decode cX7_has 5 = .ok (.iconst 1, 1) := by decide +kernel
theorem dX7_has_6 : decode cX7_has 6 = .ok (.if_icmp .ne 7, 3) := by decide +kernel
theorem dX7_has_9 : decode cX7_has 9 = .ok (.iconst 1, 1) := by decide +kernel
theorem dX7_has_10 : decode cX7_has 10 = .ok (.goto 4, 3) := by decide +kernel
theorem dX7_has_13 : decode cX7_has 13 = .ok (.iconst 0, 1) := by decide +kernel
theorem dX7_has_14 : decode cX7_has 14 = .ok (.ireturn, 1) := by decide +kernel
set_option maxRecDepth 20000 in
theorem ggX7_leastOf_J6_numberOfTrailingZeros_0f7a4 : GoodIn wsX7_leastOf wsJ6_numberOfTrailingZeros_0f7a4 := goodIn_r _ [4, 5] (by decide +kernel) (by decide +kernel)
set_option maxRecDepth 20000 in
theorem gX7_leastOf_J6_numberOfTrailingZeros_0f7a4 : GoodIn wsX7_leastOf (va_wsS RX7 286 yJ6_numberOfTrailingZeros_0f7a4 wsJ6_numberOfTrailingZeros_0f7a4) := goodIn_app (goodIn_of _ (by decide +kernel)) ggX7_leastOf_J6_numberOfTrailingZeros_0f7a4
theorem dX7_leastOf_0 : decode cX7_leastOf 0 = .ok (.iload_n 0, 1) := by decide +kernel
theorem dX7_leastOf_1 : decode cX7_leastOf 1 = .ok (.ifCond .ne 8, 3) := by decide +kernel
theorem dX7_leastOf_4 : decode cX7_leastOf 4 = .ok (.bipush (-6), 2) := by decide +kernel
theorem dX7_leastOf_6 : decode cX7_leastOf 6 = .ok (.goto 7, 3) := by decide +kernel
theorem dX7_leastOf_9 : decode cX7_leastOf 9 = .ok (.iload_n 0, 1) := by decide +kernel
theorem dX7_leastOf_10 : decode cX7_leastOf 10 = .ok (.invokestatic 286, 3) := by decide +kernel
theorem dX7_leastOf_13 : decode cX7_leastOf 13 = .ok (.ireturn, 1) := by decide +kernel
theorem dX7_power_0 : decode cX7_power 0 = .ok (.lconst 1, 1) := by decide +kernel
theorem dX7_power_1 : decode cX7_power 1 = .ok (.lstore_n 3, 1) := by decide +kernel
theorem dX7_power_2 : decode cX7_power 2 = .ok (.iconst 0, 1) := by decide +kernel
theorem dX7_power_3 : decode cX7_power 3 = .ok (.istore 5, 2) := by decide +kernel
theorem dX7_power_5 : decode cX7_power 5 = .ok (.iload 5, 2) := by decide +kernel
theorem dX7_power_7 : decode cX7_power 7 = .ok (.iload_n 2, 1) := by decide +kernel
theorem dX7_power_8 : decode cX7_power 8 = .ok (.if_icmp .ge 13, 3) := by decide +kernel
theorem dX7_power_11 : decode cX7_power 11 = .ok (.lload_n 3, 1) := by decide +kernel
theorem dX7_power_12 : decode cX7_power 12 = .ok (.lload_n 0, 1) := by decide +kernel
theorem dX7_power_13 : decode cX7_power 13 = .ok (.lmul, 1) := by decide +kernel
theorem dX7_power_14 : decode cX7_power 14 = .ok (.lstore_n 3, 1) := by decide +kernel
theorem dX7_power_15 : decode cX7_power 15 = .ok (.iinc 5 1, 3) := by decide +kernel
theorem dX7_power_18 : decode cX7_power 18 = .ok (.goto (-13), 3) := by decide +kernel
theorem dX7_power_21 : decode cX7_power 21 = .ok (.lload_n 3, 1) := by decide +kernel
theorem dX7_power_22 : decode cX7_power 22 = .ok (.lreturn, 1) := by decide +kernel
set_option maxRecDepth 20000 in
theorem ggX7_lowestTerms_X7_commonDivisor : GoodIn wsX7_lowestTerms wsX7_commonDivisor := goodIn_r _ [4] (by decide +kernel) (by decide +kernel)
set_option maxRecDepth 20000 in
theorem gX7_lowestTerms_X7_commonDivisor : GoodIn wsX7_lowestTerms (va_wsS RX7 289 yX7_commonDivisor wsX7_commonDivisor) := goodIn_app (goodIn_of _ (by decide +kernel)) ggX7_lowestTerms_X7_commonDivisor
theorem dX7_lowestTerms_0 : decode cX7_lowestTerms 0 = .ok (.lload_n 0, 1) := by decide +kernel
theorem dX7_lowestTerms_1 : decode cX7_lowestTerms 1 = .ok (.lload_n 2, 1) := by decide +kernel
theorem dX7_lowestTerms_2 : decode cX7_lowestTerms 2 = .ok (.invokestatic 289, 3) := by decide +kernel
theorem dX7_lowestTerms_5 : decode cX7_lowestTerms 5 = .ok (.lstore 5, 2) := by decide +kernel
theorem dX7_lowestTerms_7 : decode cX7_lowestTerms 7 = .ok (.lload 5, 2) := by decide +kernel
theorem dX7_lowestTerms_9 : decode cX7_lowestTerms 9 = .ok (.lconst 1, 1) := by decide +kernel
theorem dX7_lowestTerms_10 : decode cX7_lowestTerms 10 = .ok (.lcmp, 1) := by decide +kernel
theorem dX7_lowestTerms_11 : decode cX7_lowestTerms 11 = .ok (.ifCond .ge 14, 3) := by decide +kernel
theorem dX7_lowestTerms_14 : decode cX7_lowestTerms 14 = .ok (.iload 4, 2) := by decide +kernel
theorem dX7_lowestTerms_16 : decode cX7_lowestTerms 16 = .ok (.ifCond .ne 7, 3) := by decide +kernel
theorem dX7_lowestTerms_19 : decode cX7_lowestTerms 19 = .ok (.lload_n 0, 1) := by decide +kernel
theorem dX7_lowestTerms_20 : decode cX7_lowestTerms 20 = .ok (.goto 4, 3) := by decide +kernel
theorem dX7_lowestTerms_23 : decode cX7_lowestTerms 23 = .ok (.lload_n 2, 1) := by decide +kernel
theorem dX7_lowestTerms_24 : decode cX7_lowestTerms 24 = .ok (.lreturn, 1) := by decide +kernel
theorem dX7_lowestTerms_25 : decode cX7_lowestTerms 25 = .ok (.iload 4, 2) := by decide +kernel
theorem dX7_lowestTerms_27 : decode cX7_lowestTerms 27 = .ok (.ifCond .ne 10, 3) := by decide +kernel
theorem dX7_lowestTerms_30 : decode cX7_lowestTerms 30 = .ok (.lload_n 0, 1) := by decide +kernel
theorem dX7_lowestTerms_31 : decode cX7_lowestTerms 31 = .ok (.lload 5, 2) := by decide +kernel
theorem dX7_lowestTerms_33 : decode cX7_lowestTerms 33 = .ok (.ldiv, 1) := by decide +kernel
theorem dX7_lowestTerms_34 : decode cX7_lowestTerms 34 = .ok (.goto 7, 3) := by decide +kernel
theorem dX7_lowestTerms_37 : decode cX7_lowestTerms 37 = .ok (.lload_n 2, 1) := by decide +kernel
theorem dX7_lowestTerms_38 : decode cX7_lowestTerms 38 = .ok (.lload 5, 2) := by decide +kernel
theorem dX7_lowestTerms_40 : decode cX7_lowestTerms 40 = .ok (.ldiv, 1) := by decide +kernel
theorem dX7_lowestTerms_41 : decode cX7_lowestTerms 41 = .ok (.lreturn, 1) := by decide +kernel
theorem dX7_commonDivisor_0 : decode cX7_commonDivisor 0 = .ok (.lload_n 0, 1) := by decide +kernel
theorem dX7_commonDivisor_1 : decode cX7_commonDivisor 1 = .ok (.lstore 4, 2) := by decide +kernel
theorem dX7_commonDivisor_3 : decode cX7_commonDivisor 3 = .ok (.lload_n 2, 1) := by decide +kernel
theorem dX7_commonDivisor_4 : decode cX7_commonDivisor 4 = .ok (.lstore 6, 2) := by decide +kernel
theorem dX7_commonDivisor_6 : decode cX7_commonDivisor 6 = .ok (.iconst 0, 1) := by decide +kernel
theorem dX7_commonDivisor_7 : decode cX7_commonDivisor 7 = .ok (.istore 8, 2) := by decide +kernel
theorem dX7_commonDivisor_9 : decode cX7_commonDivisor 9 = .ok (.iload 8, 2) := by decide +kernel
theorem dX7_commonDivisor_11 : decode cX7_commonDivisor 11 = .ok (.bipush 100, 2) := by decide +kernel
theorem dX7_commonDivisor_13 : decode cX7_commonDivisor 13 = .ok (.if_icmp .ge 31, 3) := by decide +kernel
theorem dX7_commonDivisor_16 : decode cX7_commonDivisor 16 = .ok (.lload 6, 2) := by decide +kernel
theorem dX7_commonDivisor_18 : decode cX7_commonDivisor 18 = .ok (.lconst 0, 1) := by decide +kernel
theorem dX7_commonDivisor_19 : decode cX7_commonDivisor 19 = .ok (.lcmp, 1) := by decide +kernel
theorem dX7_commonDivisor_20 : decode cX7_commonDivisor 20 = .ok (.ifCond .eq 24, 3) := by decide +kernel
theorem dX7_commonDivisor_23 : decode cX7_commonDivisor 23 = .ok (.lload 4, 2) := by decide +kernel
theorem dX7_commonDivisor_25 : decode cX7_commonDivisor 25 = .ok (.lload 6, 2) := by decide +kernel
theorem dX7_commonDivisor_27 : decode cX7_commonDivisor 27 = .ok (.lrem, 1) := by decide +kernel
theorem dX7_commonDivisor_28 : decode cX7_commonDivisor 28 = .ok (.lstore 9, 2) := by decide +kernel
theorem dX7_commonDivisor_30 : decode cX7_commonDivisor 30 = .ok (.lload 6, 2) := by decide +kernel
theorem dX7_commonDivisor_32 : decode cX7_commonDivisor 32 = .ok (.lstore 4, 2) := by decide +kernel
theorem dX7_commonDivisor_34 : decode cX7_commonDivisor 34 = .ok (.lload 9, 2) := by decide +kernel
theorem dX7_commonDivisor_36 : decode cX7_commonDivisor 36 = .ok (.lstore 6, 2) := by decide +kernel
theorem dX7_commonDivisor_38 : decode cX7_commonDivisor 38 = .ok (.iinc 8 1, 3) := by decide +kernel
theorem dX7_commonDivisor_41 : decode cX7_commonDivisor 41 = .ok (.goto (-32), 3) := by decide +kernel
theorem dX7_commonDivisor_44 : decode cX7_commonDivisor 44 = .ok (.lload 4, 2) := by decide +kernel
theorem dX7_commonDivisor_46 : decode cX7_commonDivisor 46 = .ok (.lreturn, 1) := by decide +kernel
theorem dX8_init_0 : decode cX8_init 0 = .ok (.aload_n 0, 1) := by decide +kernel
theorem dX8_init_1 : decode cX8_init 1 = .ok (.invokespecial 1, 3) := by decide +kernel
theorem dX8_init_4 : decode cX8_init 4 = .ok (.aload_n 0, 1) := by decide +kernel
theorem dX8_init_5 : decode cX8_init 5 = .ok (.bipush 36, 2) := by decide +kernel
theorem dX8_init_7 : decode cX8_init 7 = .ok (.newarray .int, 2) := by decide +kernel
theorem dX8_init_9 : decode cX8_init 9 = .ok (.putfield 7, 3) := by decide +kernel
theorem dX8_init_12 : decode cX8_init 12 = .ok (.aload_n 0, 1) := by decide +kernel
theorem dX8_init_13 : decode cX8_init 13 = .ok (.bipush 36, 2) := by decide +kernel
theorem dX8_init_15 : decode cX8_init 15 = .ok (.newarray .int, 2) := by decide +kernel
theorem dX8_init_17 : decode cX8_init 17 = .ok (.putfield 13, 3) := by decide +kernel
theorem dX8_init_20 : decode cX8_init 20 = .ok (.aload_n 0, 1) := by decide +kernel
theorem dX8_init_21 : decode cX8_init 21 = .ok (.bipush 8, 2) := by decide +kernel
theorem dX8_init_23 : decode cX8_init 23 = .ok (.newarray .int, 2) := by decide +kernel
theorem dX8_init_25 : decode cX8_init 25 = .ok (.putfield 16, 3) := by decide +kernel
theorem dX8_init_28 : decode cX8_init 28 = .ok (.aload_n 0, 1) := by decide +kernel
theorem dX8_init_29 : decode cX8_init 29 = .ok (.bipush 8, 2) := by decide +kernel
theorem dX8_init_31 : decode cX8_init 31 = .ok (.newarray .int, 2) := by decide +kernel
theorem dX8_init_33 : decode cX8_init 33 = .ok (.putfield 19, 3) := by decide +kernel
theorem dX8_init_36 : decode cX8_init 36 = .ok (.aload_n 0, 1) := by decide +kernel
theorem dX8_init_37 : decode cX8_init 37 = .ok (.bipush 8, 2) := by decide +kernel
theorem dX8_init_39 : decode cX8_init 39 = .ok (.newarray .int, 2) := by decide +kernel
theorem dX8_init_41 : decode cX8_init 41 = .ok (.putfield 22, 3) := by decide +kernel
theorem dX8_init_44 : decode cX8_init 44 = .ok (.aload_n 0, 1) := by decide +kernel
theorem dX8_init_45 : decode cX8_init 45 = .ok (.bipush 10, 2) := by decide +kernel
theorem dX8_init_47 : decode cX8_init 47 = .ok (.newarray .int, 2) := by decide +kernel
theorem dX8_init_49 : decode cX8_init 49 = .ok (.putfield 25, 3) := by decide +kernel
theorem dX8_init_52 : decode cX8_init 52 = .ok (.aload_n 0, 1) := by decide +kernel
theorem dX8_init_53 : decode cX8_init 53 = .ok (.bipush 10, 2) := by decide +kernel
theorem dX8_init_55 : decode cX8_init 55 = .ok (.newarray .int, 2) := by decide +kernel
theorem dX8_init_57 : decode cX8_init 57 = .ok (.putfield 28, 3) := by decide +kernel
theorem dX8_init_60 : decode cX8_init 60 = .ok (.aload_n 0, 1) := by decide +kernel
theorem dX8_init_61 : decode cX8_init 61 = .ok (.bipush 16, 2) := by decide +kernel
theorem dX8_init_63 : decode cX8_init 63 = .ok (.newarray .int, 2) := by decide +kernel
theorem dX8_init_65 : decode cX8_init 65 = .ok (.putfield 31, 3) := by decide +kernel
theorem dX8_init_68 : decode cX8_init 68 = .ok (.aload_n 0, 1) := by decide +kernel
theorem dX8_init_69 : decode cX8_init 69 = .ok (.bipush 60, 2) := by decide +kernel
theorem dX8_init_71 : decode cX8_init 71 = .ok (.newarray .int, 2) := by decide +kernel
theorem dX8_init_73 : decode cX8_init 73 = .ok (.putfield 34, 3) := by decide +kernel
theorem dX8_init_76 : decode cX8_init 76 = .ok (.aload_n 0, 1) := by decide +kernel
theorem dX8_init_77 : decode cX8_init 77 = .ok (.bipush 10, 2) := by decide +kernel
theorem dX8_init_79 : decode cX8_init 79 = .ok (.newarray .int, 2) := by decide +kernel
theorem dX8_init_81 : decode cX8_init 81 = .ok (.putfield 37, 3) := by decide +kernel
theorem dX8_init_84 : decode cX8_init 84 = .ok (.aload_n 0, 1) := by decide +kernel
theorem dX8_init_85 : decode cX8_init 85 = .ok (.bipush 10, 2) := by decide +kernel
theorem dX8_init_87 : decode cX8_init 87 = .ok (.newarray .int, 2) := by decide +kernel
theorem dX8_init_89 : decode cX8_init 89 = .ok (.putfield 40, 3) := by decide +kernel
theorem dX8_init_92 : decode cX8_init 92 = .ok (.aload_n 0, 1) := by decide +kernel
theorem dX8_init_93 : decode cX8_init 93 = .ok (.sipush 10000, 3) := by decide +kernel
theorem dX8_init_96 : decode cX8_init 96 = .ok (.newarray .boolean, 2) := by decide +kernel
theorem dX8_init_98 : decode cX8_init 98 = .ok (.putfield 43, 3) := by decide +kernel
theorem dX8_init_101 : decode cX8_init 101 = .ok (.aload_n 0, 1) := by decide +kernel
theorem dX8_init_102 : decode cX8_init 102 = .ok (.bipush 100, 2) := by decide +kernel
theorem dX8_init_104 : decode cX8_init 104 = .ok (.newarray .int, 2) := by decide +kernel
theorem dX8_init_106 : decode cX8_init 106 = .ok (.putfield 47, 3) := by decide +kernel
theorem dX8_init_109 : decode cX8_init 109 = .ok (.aload_n 0, 1) := by decide +kernel
theorem dX8_init_110 : decode cX8_init 110 = .ok (.bipush 25, 2) := by decide +kernel
theorem dX8_init_112 : decode cX8_init 112 = .ok (.newarray .int, 2) := by decide +kernel
theorem dX8_init_114 : decode cX8_init 114 = .ok (.putfield 50, 3) := by decide +kernel
theorem dX8_init_117 : decode cX8_init 117 = .ok (.aload_n 0, 1) := by decide +kernel
theorem dX8_init_118 : decode cX8_init 118 = .ok (.sipush 220, 3) := by decide +kernel
theorem dX8_init_121 : decode cX8_init 121 = .ok (.newarray .int, 2) := by decide +kernel
theorem dX8_init_123 : decode cX8_init 123 = .ok (.putfield 53, 3) := by decide +kernel
theorem dX8_init_126 : decode cX8_init 126 = .ok (.aload_n 0, 1) := by decide +kernel
theorem dX8_init_127 : decode cX8_init 127 = .ok (.iconst 2, 1) := by decide +kernel
theorem dX8_init_128 : decode cX8_init 128 = .ok (.newarray .boolean, 2) := by decide +kernel
theorem dX8_init_130 : decode cX8_init 130 = .ok (.putfield 56, 3) := by decide +kernel
theorem dX8_init_133 : decode cX8_init 133 = .ok (.iconst 0, 1) := by decide +kernel
theorem dX8_init_134 : decode cX8_init 134 = .ok (.istore_n 1, 1) := by decide +kernel
theorem dX8_init_135 : decode cX8_init 135 = .ok (.iload_n 1, 1) := by decide +kernel
theorem dX8_init_136 : decode cX8_init 136 = .ok (.bipush 8, 2) := by decide +kernel
theorem dX8_init_138 : decode cX8_init 138 = .ok (.if_icmp .ge 17, 3) := by decide +kernel
theorem dX8_init_141 : decode cX8_init 141 = .ok (.aload_n 0, 1) := by decide +kernel
theorem dX8_init_142 : decode cX8_init 142 = .ok (.getfield 7, 3) := by decide +kernel
theorem dX8_init_145 : decode cX8_init 145 = .ok (.iload_n 1, 1) := by decide +kernel
theorem dX8_init_146 : decode cX8_init 146 = .ok (.bipush (-6), 2) := by decide +kernel
theorem dX8_init_148 : decode cX8_init 148 = .ok (.iastore, 1) := by decide +kernel
theorem dX8_init_149 : decode cX8_init 149 = .ok (.iinc 1 1, 3) := by decide +kernel
theorem dX8_init_152 : decode cX8_init 152 = .ok (.goto (-17), 3) := by decide +kernel
theorem dX8_init_155 : decode cX8_init 155 = .ok (.iconst 0, 1) := by decide +kernel
theorem dX8_init_156 : decode cX8_init 156 = .ok (.istore_n 1, 1) := by decide +kernel
theorem dX8_init_157 : decode cX8_init 157 = .ok (.iload_n 1, 1) := by decide +kernel
theorem dX8_init_158 : decode cX8_init 158 = .ok (.bipush 10, 2) := by decide +kernel
theorem dX8_init_160 : decode cX8_init 160 = .ok (.if_icmp .ge 16, 3) := by decide +kernel
theorem dX8_init_163 : decode cX8_init 163 = .ok (.aload_n 0, 1) := by decide +kernel
theorem dX8_init_164 : decode cX8_init 164 = .ok (.getfield 28, 3) := by decide +kernel
theorem dX8_init_167 : decode cX8_init 167 = .ok (.iload_n 1, 1) := by decide +kernel
theorem dX8_init_168 : decode cX8_init 168 = .ok (.iload_n 1, 1) := by decide +kernel
theorem dX8_init_169 : decode cX8_init 169 = .ok (.iastore, 1) := by decide +kernel
theorem dX8_init_170 : decode cX8_init 170 = .ok (.iinc 1 1, 3) := by decide +kernel
theorem dX8_init_173 : decode cX8_init 173 = .ok (.goto (-16), 3) := by decide +kernel
theorem dX8_init_176 : decode cX8_init 176 = .ok (.return_, 1) := by decide +kernel
theorem dX8_in_0 : decode cX8_in 0 = .ok (.iload_n 0, 1) := by decide +kernel
theorem dX8_in_1 : decode cX8_in 1 = .ok (.iload_n 1, 1) := by decide +kernel
theorem dX8_in_2 : decode cX8_in 2 = .ok (.if_icmp .lt 12, 3) := by decide +kernel
theorem dX8_in_5 : decode cX8_in 5 = .ok (.iload_n 0, 1) := by decide +kernel
theorem dX8_in_6 : decode cX8_in 6 = .ok (.iload_n 2, 1) := by decide +kernel
theorem dX8_in_7 : decode cX8_in 7 = .ok (.if_icmp .gt 7, 3) := by decide +kernel
theorem dX8_in_10 : decode cX8_in 10 = .ok (.iconst 1, 1) := by decide +kernel
theorem dX8_in_11 : decode cX8_in 11 = .ok (.goto 4, 3) := by decide +kernel
theorem dX8_in_14 : decode cX8_in 14 = .ok (.iconst 0, 1) := by decide +kernel
theorem dX8_in_15 : decode cX8_in 15 = .ok (.ireturn, 1) := by decide +kernel
theorem dX8_has_0 : decode cX8_has 0 = .ok (.iload_n 0, 1) := by decide +kernel
theorem dX8_has_1 : decode cX8_has 1 = .ok (.iload_n 1, 1) := by decide +kernel
theorem dX8_has_2 : decode cX8_has 2 = .ok (.ishr, 1) := by decide +kernel
theorem dX8_has_3 : decode cX8_has 3 = .ok (.iconst 1, 1) := by decide +kernel
theorem dX8_has_4 : decode cX8_has 4 = .ok (.iand, 1) := by decide +kernel
theorem dX8_has_5 : decode cX8_has 5 = .ok (.iconst 1, 1) := by decide +kernel
theorem dX8_has_6 : decode cX8_has 6 = .ok (.if_icmp .ne 7, 3) := by decide +kernel
theorem dX8_has_9 : decode cX8_has 9 = .ok (.iconst 1, 1) := by decide +kernel
theorem dX8_has_10 : decode cX8_has 10 = .ok (.goto 4, 3) := by decide +kernel
theorem dX8_has_13 : decode cX8_has 13 = .ok (.iconst 0, 1) := by decide +kernel
theorem dX8_has_14 : decode cX8_has 14 = .ok (.ireturn, 1) := by decide +kernel
theorem dX8_bits_0 : decode cX8_bits 0 = .ok (.iconst 0, 1) := by decide +kernel
theorem dX8_bits_1 : decode cX8_bits 1 = .ok (.istore_n 1, 1) := by decide +kernel
theorem dX8_bits_2 : decode cX8_bits 2 = .ok (.iconst 0, 1) := by decide +kernel
theorem dX8_bits_3 : decode cX8_bits 3 = .ok (.istore_n 2, 1) := by decide +kernel
theorem dX8_bits_4 : decode cX8_bits 4 = .ok (.iload_n 2, 1) := by decide +kernel
theorem dX8_bits_5 : decode cX8_bits 5 = .ok (.bipush 10, 2) := by decide +kernel
theorem dX8_bits_7 : decode cX8_bits 7 = .ok (.if_icmp .ge 17, 3) := by decide +kernel
theorem dX8_bits_10 : decode cX8_bits 10 = .ok (.iload_n 1, 1) := by decide +kernel
theorem dX8_bits_11 : decode cX8_bits 11 = .ok (.iload_n 0, 1) := by decide +kernel
theorem dX8_bits_12 : decode cX8_bits 12 = .ok (.iload_n 2, 1) := by decide +kernel
theorem dX8_bits_13 : decode cX8_bits 13 = .ok (.ishr, 1) := by decide +kernel
theorem dX8_bits_14 : decode cX8_bits 14 = .ok (.iconst 1, 1) := by decide +kernel
theorem dX8_bits_15 : decode cX8_bits 15 = .ok (.iand, 1) := by decide +kernel
theorem dX8_bits_16 : decode cX8_bits 16 = .ok (.iadd, 1) := by decide +kernel
theorem dX8_bits_17 : decode cX8_bits 17 = .ok (.istore_n 1, 1) := by decide +kernel
theorem dX8_bits_18 : decode cX8_bits 18 = .ok (.iinc 2 1, 3) := by decide +kernel
theorem dX8_bits_21 : decode cX8_bits 21 = .ok (.goto (-17), 3) := by decide +kernel
theorem dX8_bits_24 : decode cX8_bits 24 = .ok (.iload_n 1, 1) := by decide +kernel
theorem dX8_bits_25 : decode cX8_bits 25 = .ok (.ireturn, 1) := by decide +kernel
set_option maxRecDepth 20000 in
theorem ggX8_isGallery_X8_in : GoodIn wsX8_isGallery wsX8_in := goodIn_r _ [4] (by decide +kernel) (by decide +kernel)
set_option maxRecDepth 20000 in
theorem gX8_isGallery_X8_in : GoodIn wsX8_isGallery (va_wsS RX8 59 yX8_in wsX8_in) := goodIn_app (goodIn_of _ (by decide +kernel)) ggX8_isGallery_X8_in
theorem dX8_isGallery_0 : decode cX8_isGallery 0 = .ok (.iload_n 0, 1) := by decide +kernel
theorem dX8_isGallery_1 : decode cX8_isGallery 1 = .ok (.iconst 0, 1) := by decide +kernel
theorem dX8_isGallery_2 : decode cX8_isGallery 2 = .ok (.bipush 9, 2) := by decide +kernel
theorem dX8_isGallery_4 : decode cX8_isGallery 4 = .ok (.invokestatic 59, 3) := by decide +kernel
theorem dX8_isGallery_7 : decode cX8_isGallery 7 = .ok (.ireturn, 1) := by decide +kernel
set_option maxRecDepth 20000 in
theorem ggX8_isThere_X8_in : GoodIn wsX8_isThere wsX8_in := goodIn_r _ [5] (by decide +kernel) (by decide +kernel)
set_option maxRecDepth 20000 in
theorem gX8_isThere_X8_in : GoodIn wsX8_isThere (va_wsS RX8 59 yX8_in wsX8_in) := goodIn_app (goodIn_of _ (by decide +kernel)) ggX8_isThere_X8_in
set_option maxRecDepth 20000 in
theorem ggX8_isThere_X8_has : GoodIn wsX8_isThere wsX8_has := goodIn_r _ [8] (by decide +kernel) (by decide +kernel)
set_option maxRecDepth 20000 in
theorem gX8_isThere_X8_has : GoodIn wsX8_isThere (va_wsS RX8 67 yX8_has wsX8_has) := goodIn_app (goodIn_of _ (by decide +kernel)) ggX8_isThere_X8_has
theorem dX8_isThere_0 : decode cX8_isThere 0 = .ok (.iload_n 1, 1) := by decide +kernel
theorem dX8_isThere_1 : decode cX8_isThere 1 = .ok (.iconst 0, 1) := by decide +kernel
theorem dX8_isThere_2 : decode cX8_isThere 2 = .ok (.bipush 7, 2) := by decide +kernel
theorem dX8_isThere_4 : decode cX8_isThere 4 = .ok (.invokestatic 59, 3) := by decide +kernel
theorem dX8_isThere_7 : decode cX8_isThere 7 = .ok (.ifCond .eq 18, 3) := by decide +kernel
theorem dX8_isThere_10 : decode cX8_isThere 10 = .ok (.aload_n 0, 1) := by decide +kernel
theorem dX8_isThere_11 : decode cX8_isThere 11 = .ok (.getfield 63, 3) := by decide +kernel
theorem dX8_isThere_14 : decode cX8_isThere 14 = .ok (.iload_n 1, 1) := by decide +kernel
theorem dX8_isThere_15 : decode cX8_isThere 15 = .ok (.invokestatic 67, 3) := by decide +kernel
theorem dX8_isThere_18 : decode cX8_isThere 18 = .ok (.ifCond .eq 7, 3) := by decide +kernel
theorem dX8_isThere_21 : decode cX8_isThere 21 = .ok (.iconst 1, 1) := by decide +kernel
theorem dX8_isThere_22 : decode cX8_isThere 22 = .ok (.goto 4, 3) := by decide +kernel
theorem dX8_isThere_25 : decode cX8_isThere 25 = .ok (.iconst 0, 1) := by decide +kernel
theorem dX8_isThere_26 : decode cX8_isThere 26 = .ok (.ireturn, 1) := by decide +kernel
set_option maxRecDepth 20000 in
theorem ggX8_passage_X8_isGallery : GoodIn wsX8_passage wsX8_isGallery := goodIn_r _ [5, 6, 7, 4, 8] (by decide +kernel) (by decide +kernel)
set_option maxRecDepth 20000 in
theorem gX8_passage_X8_isGallery : GoodIn wsX8_passage (va_wsS RX8 71 yX8_isGallery wsX8_isGallery) := goodIn_app (goodIn_of _ (by decide +kernel)) ggX8_passage_X8_isGallery
set_option maxRecDepth 20000 in
theorem ggX8_passage_X8_bits : GoodIn wsX8_passage wsX8_bits := goodIn_r _ [11] (by decide +kernel) (by decide +kernel)
set_option maxRecDepth 20000 in
theorem gX8_passage_X8_bits : GoodIn wsX8_passage (va_wsS RX8 75 yX8_bits wsX8_bits) := goodIn_app (goodIn_of _ (by decide +kernel)) ggX8_passage_X8_bits
theorem dX8_passage_0 : decode cX8_passage 0 = .ok (.iload_n 1, 1) := by decide +kernel
theorem dX8_passage_1 : decode cX8_passage 1 = .ok (.invokestatic 71, 3) := by decide +kernel
theorem dX8_passage_4 : decode cX8_passage 4 = .ok (.ifCond .eq 15, 3) := by decide +kernel
theorem dX8_passage_7 : decode cX8_passage 7 = .ok (.iload_n 2, 1) := by decide +kernel
theorem dX8_passage_8 : decode cX8_passage 8 = .ok (.invokestatic 71, 3) := by decide +kernel
theorem dX8_passage_11 : decode cX8_passage 11 = .ok (.ifCond .eq 8, 3) := by decide +kernel
theorem dX8_passage_14 : decode cX8_passage 14 = .ok (.iload_n 1, 1) := by decide +kernel
theorem dX8_passage_15 : decode cX8_passage 15 = .ok (.iload_n 2, 1) := by decide +kernel
theorem dX8_passage_16 : decode cX8_passage 16 = .ok (.if_icmp .ne 5, 3) := by decide +kernel
theorem dX8_passage_19 : decode cX8_passage 19 = .ok (.iconst (-1), 1) := by decide +kernel
theorem dX8_passage_20 : decode cX8_passage 20 = .ok (.ireturn, 1) := by decide +kernel
theorem dX8_passage_21 : decode cX8_passage 21 = .ok (.aload_n 0, 1) := by decide +kernel
theorem dX8_passage_22 : decode cX8_passage 22 = .ok (.getfield 25, 3) := by decide +kernel
theorem dX8_passage_25 : decode cX8_passage 25 = .ok (.iload_n 1, 1) := by decide +kernel
theorem dX8_passage_26 : decode cX8_passage 26 = .ok (.dup2, 1) := by decide +kernel
theorem dX8_passage_27 : decode cX8_passage 27 = .ok (.iaload, 1) := by decide +kernel
theorem dX8_passage_28 : decode cX8_passage 28 = .ok (.iconst 1, 1) := by decide +kernel
theorem dX8_passage_29 : decode cX8_passage 29 = .ok (.iload_n 2, 1) := by decide +kernel
theorem dX8_passage_30 : decode cX8_passage 30 = .ok (.ishl, 1) := by decide +kernel
theorem dX8_passage_31 : decode cX8_passage 31 = .ok (.iconst (-1), 1) := by decide +kernel
theorem dX8_passage_32 : decode cX8_passage 32 = .ok (.ixor, 1) := by decide +kernel
theorem dX8_passage_33 : decode cX8_passage 33 = .ok (.iand, 1) := by decide +kernel
theorem dX8_passage_34 : decode cX8_passage 34 = .ok (.iastore, 1) := by decide +kernel
theorem dX8_passage_35 : decode cX8_passage 35 = .ok (.aload_n 0, 1) := by decide +kernel
theorem dX8_passage_36 : decode cX8_passage 36 = .ok (.getfield 25, 3) := by decide +kernel
theorem dX8_passage_39 : decode cX8_passage 39 = .ok (.iload_n 2, 1) := by decide +kernel
theorem dX8_passage_40 : decode cX8_passage 40 = .ok (.dup2, 1) := by decide +kernel
theorem dX8_passage_41 : decode cX8_passage 41 = .ok (.iaload, 1) := by decide +kernel
theorem dX8_passage_42 : decode cX8_passage 42 = .ok (.iconst 1, 1) := by decide +kernel
theorem dX8_passage_43 : decode cX8_passage 43 = .ok (.iload_n 1, 1) := by decide +kernel
theorem dX8_passage_44 : decode cX8_passage 44 = .ok (.ishl, 1) := by decide +kernel
theorem dX8_passage_45 : decode cX8_passage 45 = .ok (.iconst (-1), 1) := by decide +kernel
theorem dX8_passage_46 : decode cX8_passage 46 = .ok (.ixor, 1) := by decide +kernel
theorem dX8_passage_47 : decode cX8_passage 47 = .ok (.iand, 1) := by decide +kernel
theorem dX8_passage_48 : decode cX8_passage 48 = .ok (.iastore, 1) := by decide +kernel
theorem dX8_passage_49 : decode cX8_passage 49 = .ok (.aload_n 0, 1) := by decide +kernel
theorem dX8_passage_50 : decode cX8_passage 50 = .ok (.getfield 25, 3) := by decide +kernel
theorem dX8_passage_53 : decode cX8_passage 53 = .ok (.iload_n 1, 1) := by decide +kernel
theorem dX8_passage_54 : decode cX8_passage 54 = .ok (.dup2, 1) := by decide +kernel
theorem dX8_passage_55 : decode cX8_passage 55 = .ok (.iaload, 1) := by decide +kernel
theorem dX8_passage_56 : decode cX8_passage 56 = .ok (.iload_n 3, 1) := by decide +kernel
theorem dX8_passage_57 : decode cX8_passage 57 = .ok (.ifCond .eq 9, 3) := by decide +kernel
theorem dX8_passage_60 : decode cX8_passage 60 = .ok (.iconst 1, 1) := by decide +kernel
theorem dX8_passage_61 : decode cX8_passage 61 = .ok (.iload_n 2, 1) := by decide +kernel
theorem dX8_passage_62 : decode cX8_passage 62 = .ok (.ishl, 1) := by decide +kernel
theorem dX8_passage_63 : decode cX8_passage 63 = .ok (.goto 4, 3) := by decide +kernel
theorem dX8_passage_66 : decode cX8_passage 66 = .ok (.iconst 0, 1) := by decide +kernel
theorem dX8_passage_67 : decode cX8_passage 67 = .ok (.ior, 1) := by decide +kernel
theorem dX8_passage_68 : decode cX8_passage 68 = .ok (.iastore, 1) := by decide +kernel
theorem dX8_passage_69 : decode cX8_passage 69 = .ok (.aload_n 0, 1) := by decide +kernel
theorem dX8_passage_70 : decode cX8_passage 70 = .ok (.getfield 25, 3) := by decide +kernel
theorem dX8_passage_73 : decode cX8_passage 73 = .ok (.iload_n 2, 1) := by decide +kernel
theorem dX8_passage_74 : decode cX8_passage 74 = .ok (.dup2, 1) := by decide +kernel
theorem dX8_passage_75 : decode cX8_passage 75 = .ok (.iaload, 1) := by decide +kernel
theorem dX8_passage_76 : decode cX8_passage 76 = .ok (.iload_n 3, 1) := by decide +kernel
theorem dX8_passage_77 : decode cX8_passage 77 = .ok (.ifCond .eq 9, 3) := by decide +kernel
theorem dX8_passage_80 : decode cX8_passage 80 = .ok (.iconst 1, 1) := by decide +kernel
theorem dX8_passage_81 : decode cX8_passage 81 = .ok (.iload_n 1, 1) := by decide +kernel
theorem dX8_passage_82 : decode cX8_passage 82 = .ok (.ishl, 1) := by decide +kernel
theorem dX8_passage_83 : decode cX8_passage 83 = .ok (.goto 4, 3) := by decide +kernel
theorem dX8_passage_86 : decode cX8_passage 86 = .ok (.iconst 0, 1) := by decide +kernel
theorem dX8_passage_87 : decode cX8_passage 87 = .ok (.ior, 1) := by decide +kernel
theorem dX8_passage_88 : decode cX8_passage 88 = .ok (.iastore, 1) := by decide +kernel
theorem dX8_passage_89 : decode cX8_passage 89 = .ok (.iconst 0, 1) := by decide +kernel
theorem dX8_passage_90 : decode cX8_passage 90 = .ok (.istore 4, 2) := by decide +kernel
theorem dX8_passage_92 : decode cX8_passage 92 = .ok (.iconst 0, 1) := by decide +kernel
theorem dX8_passage_93 : decode cX8_passage 93 = .ok (.istore 5, 2) := by decide +kernel
theorem dX8_passage_95 : decode cX8_passage 95 = .ok (.iload 5, 2) := by decide +kernel
theorem dX8_passage_97 : decode cX8_passage 97 = .ok (.bipush 10, 2) := by decide +kernel
theorem dX8_passage_99 : decode cX8_passage 99 = .ok (.if_icmp .ge 24, 3) := by decide +kernel
theorem dX8_passage_102 : decode cX8_passage 102 = .ok (.iload 4, 2) := by decide +kernel
theorem dX8_passage_104 : decode cX8_passage 104 = .ok (.aload_n 0, 1) := by decide +kernel
theorem dX8_passage_105 : decode cX8_passage 105 = .ok (.getfield 25, 3) := by decide +kernel
theorem dX8_passage_108 : decode cX8_passage 108 = .ok (.iload 5, 2) := by decide +kernel
theorem dX8_passage_110 : decode cX8_passage 110 = .ok (.iaload, 1) := by decide +kernel
theorem dX8_passage_111 : decode cX8_passage 111 = .ok (.invokestatic 75, 3) := by decide +kernel
theorem dX8_passage_114 : decode cX8_passage 114 = .ok (.iadd, 1) := by decide +kernel
theorem dX8_passage_115 : decode cX8_passage 115 = .ok (.istore 4, 2) := by decide +kernel
theorem dX8_passage_117 : decode cX8_passage 117 = .ok (.iinc 5 1, 3) := by decide +kernel
theorem dX8_passage_120 : decode cX8_passage 120 = .ok (.goto (-25), 3) := by decide +kernel
theorem dX8_passage_123 : decode cX8_passage 123 = .ok (.iload 4, 2) := by decide +kernel
theorem dX8_passage_125 : decode cX8_passage 125 = .ok (.iconst 2, 1) := by decide +kernel
theorem dX8_passage_126 : decode cX8_passage 126 = .ok (.idiv, 1) := by decide +kernel
theorem dX8_passage_127 : decode cX8_passage 127 = .ok (.ireturn, 1) := by decide +kernel
set_option maxRecDepth 20000 in
theorem ggX8_gallery_X8_isGallery : GoodIn wsX8_gallery wsX8_isGallery := goodIn_r _ [6, 7, 8, 5, 9] (by decide +kernel) (by decide +kernel)
set_option maxRecDepth 20000 in
theorem gX8_gallery_X8_isGallery : GoodIn wsX8_gallery (va_wsS RX8 71 yX8_isGallery wsX8_isGallery) := goodIn_app (goodIn_of _ (by decide +kernel)) ggX8_gallery_X8_isGallery
theorem dX8_gallery_0 : decode cX8_gallery 0 = .ok (.iload_n 1, 1) := by decide +kernel
theorem dX8_gallery_1 : decode cX8_gallery 1 = .ok (.invokestatic 71, 3) := by decide +kernel
theorem dX8_gallery_4 : decode cX8_gallery 4 = .ok (.ifCond .eq 10, 3) := by decide +kernel
theorem dX8_gallery_7 : decode cX8_gallery 7 = .ok (.iload_n 2, 1) := by decide +kernel
theorem dX8_gallery_8 : decode cX8_gallery 8 = .ok (.invokestatic 71, 3) := by decide +kernel
theorem dX8_gallery_11 : decode cX8_gallery 11 = .ok (.ifCond .ne 5, 3) := by decide +kernel
theorem dX8_gallery_14 : decode cX8_gallery 14 = .ok (.iconst (-1), 1) := by decide +kernel
theorem dX8_gallery_15 : decode cX8_gallery 15 = .ok (.ireturn, 1) := by decide +kernel
theorem dX8_gallery_16 : decode cX8_gallery 16 = .ok (.aload_n 0, 1) := by decide +kernel
theorem dX8_gallery_17 : decode cX8_gallery 17 = .ok (.getfield 28, 3) := by decide +kernel
theorem dX8_gallery_20 : decode cX8_gallery 20 = .ok (.iload_n 1, 1) := by decide +kernel
theorem dX8_gallery_21 : decode cX8_gallery 21 = .ok (.iaload, 1) := by decide +kernel
theorem dX8_gallery_22 : decode cX8_gallery 22 = .ok (.istore 4, 2) := by decide +kernel
theorem dX8_gallery_24 : decode cX8_gallery 24 = .ok (.aload_n 0, 1) := by decide +kernel
theorem dX8_gallery_25 : decode cX8_gallery 25 = .ok (.getfield 28, 3) := by decide +kernel
theorem dX8_gallery_28 : decode cX8_gallery 28 = .ok (.iload_n 1, 1) := by decide +kernel
theorem dX8_gallery_29 : decode cX8_gallery 29 = .ok (.iload_n 2, 1) := by decide +kernel
theorem dX8_gallery_30 : decode cX8_gallery 30 = .ok (.iastore, 1) := by decide +kernel
theorem dX8_gallery_31 : decode cX8_gallery 31 = .ok (.aload_n 0, 1) := by decide +kernel
theorem dX8_gallery_32 : decode cX8_gallery 32 = .ok (.dup, 1) := by decide +kernel
theorem dX8_gallery_33 : decode cX8_gallery 33 = .ok (.getfield 79, 3) := by decide +kernel
theorem dX8_gallery_36 : decode cX8_gallery 36 = .ok (.iconst 1, 1) := by decide +kernel
theorem dX8_gallery_37 : decode cX8_gallery 37 = .ok (.iload_n 1, 1) := by decide +kernel
theorem dX8_gallery_38 : decode cX8_gallery 38 = .ok (.ishl, 1) := by decide +kernel
theorem dX8_gallery_39 : decode cX8_gallery 39 = .ok (.iconst (-1), 1) := by decide +kernel
theorem dX8_gallery_40 : decode cX8_gallery 40 = .ok (.ixor, 1) := by decide +kernel
theorem dX8_gallery_41 : decode cX8_gallery 41 = .ok (.iand, 1) := by decide +kernel
theorem dX8_gallery_42 : decode cX8_gallery 42 = .ok (.putfield 79, 3) := by decide +kernel
theorem dX8_gallery_45 : decode cX8_gallery 45 = .ok (.aload_n 0, 1) := by decide +kernel
theorem dX8_gallery_46 : decode cX8_gallery 46 = .ok (.dup, 1) := by decide +kernel
theorem dX8_gallery_47 : decode cX8_gallery 47 = .ok (.getfield 79, 3) := by decide +kernel
theorem dX8_gallery_50 : decode cX8_gallery 50 = .ok (.iload_n 3, 1) := by decide +kernel
theorem dX8_gallery_51 : decode cX8_gallery 51 = .ok (.ifCond .eq 9, 3) := by decide +kernel
theorem dX8_gallery_54 : decode cX8_gallery 54 = .ok (.iconst 1, 1) := by decide +kernel
