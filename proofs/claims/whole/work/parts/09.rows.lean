theorem dX8_behind_40 : decode cX8_behind 40 = .ok (.iload_n 2, 1) := by decide +kernel
theorem dX8_behind_41 : decode cX8_behind 41 = .ok (.imul, 1) := by decide +kernel
theorem dX8_behind_42 : decode cX8_behind 42 = .ok (.iload_n 1, 1) := by decide +kernel
theorem dX8_behind_43 : decode cX8_behind 43 = .ok (.iadd, 1) := by decide +kernel
theorem dX8_behind_44 : decode cX8_behind 44 = .ok (.iaload, 1) := by decide +kernel
theorem dX8_behind_45 : decode cX8_behind 45 = .ok (.ireturn, 1) := by decide +kernel
set_option maxRecDepth 20000 in
theorem ggX8_seam_X8_isGallery : GoodIn wsX8_seam wsX8_isGallery := goodIn_r _ [5, 6, 7, 4, 8] (by decide +kernel) (by decide +kernel)
set_option maxRecDepth 20000 in
theorem gX8_seam_X8_isGallery : GoodIn wsX8_seam (va_wsS RX8 71 yX8_isGallery wsX8_isGallery) := goodIn_app (goodIn_of _ (by decide +kernel)) ggX8_seam_X8_isGallery
set_option maxRecDepth 20000 in
theorem ggX8_seam_X8_in : GoodIn wsX8_seam wsX8_in := goodIn_r _ [8] (by decide +kernel) (by decide +kernel)
set_option maxRecDepth 20000 in
theorem gX8_seam_X8_in : GoodIn wsX8_seam (va_wsS RX8 59 yX8_in wsX8_in) := goodIn_app (goodIn_of _ (by decide +kernel)) ggX8_seam_X8_in
set_option maxRecDepth 20000 in
theorem ggX8_seam_X8_barOfShifts : GoodIn wsX8_seam wsX8_barOfShifts := goodIn_r _ [12, 13, 14, 15, 4, 16, 17, 18, 6, 7, 8, 19, 20, 21, 22, 23, 24, 1, 25, 26, 27, 28, 29, 30, 31, 32, 33, 34, 35, 36, 37, 38, 39, 40, 41, 42, 43, 44, 45, 46, 47, 48, 49, 50, 51, 52, 53, 54, 55, 56, 57, 58, 59, 60, 61, 62, 63, 64, 65, 66, 67, 68, 69, 70, 71, 72, 73, 74, 75, 76, 77, 78, 79, 80, 81, 82, 83, 84, 85, 86, 87, 88, 89, 90, 91, 92, 93, 94, 95, 96, 97, 98, 99, 100, 101, 102, 103, 104, 105, 106] (by decide +kernel) (by decide +kernel)
set_option maxRecDepth 20000 in
theorem gX8_seam_X8_barOfShifts : GoodIn wsX8_seam (wsV RX8 138 RX8 yX8_barOfShifts wsX8_barOfShifts) := goodIn_app (goodIn_of _ (by decide +kernel)) ggX8_seam_X8_barOfShifts
set_option maxRecDepth 20000 in
theorem ggX8_seam_X8_lightOf : GoodIn wsX8_seam wsX8_lightOf := goodIn_r _ [39, 40, 41, 42, 43, 4, 44, 45, 1, 46, 47, 48, 49, 50, 51, 52, 53, 54, 6, 7, 8, 55, 56, 57, 58, 59, 60, 61, 83, 84, 85, 86, 87, 88, 89, 90, 91, 92, 93, 94, 95, 96, 97, 98, 99, 100, 101, 102, 103, 104, 105, 106] (by decide +kernel) (by decide +kernel)
set_option maxRecDepth 20000 in
theorem gX8_seam_X8_lightOf : GoodIn wsX8_seam (wsV RX8 101 RX8 yX8_lightOf wsX8_lightOf) := goodIn_app (goodIn_of _ (by decide +kernel)) ggX8_seam_X8_lightOf
theorem dX8_seam_0 : decode cX8_seam 0 = .ok (.iload_n 1, 1) := by decide +kernel
theorem dX8_seam_1 : decode cX8_seam 1 = .ok (.invokestatic 71, 3) := by decide +kernel
theorem dX8_seam_4 : decode cX8_seam 4 = .ok (.ifCond .ne 5, 3) := by decide +kernel
theorem dX8_seam_7 : decode cX8_seam 7 = .ok (.iconst (-1), 1) := by decide +kernel
theorem dX8_seam_8 : decode cX8_seam 8 = .ok (.ireturn, 1) := by decide +kernel
theorem dX8_seam_9 : decode cX8_seam 9 = .ok (.iload_n 2, 1) := by decide +kernel
theorem dX8_seam_10 : decode cX8_seam 10 = .ok (.iconst 0, 1) := by decide +kernel
theorem dX8_seam_11 : decode cX8_seam 11 = .ok (.iconst 1, 1) := by decide +kernel
theorem dX8_seam_12 : decode cX8_seam 12 = .ok (.invokestatic 59, 3) := by decide +kernel
theorem dX8_seam_15 : decode cX8_seam 15 = .ok (.ifCond .ne 6, 3) := by decide +kernel
theorem dX8_seam_18 : decode cX8_seam 18 = .ok (.bipush (-2), 2) := by decide +kernel
theorem dX8_seam_20 : decode cX8_seam 20 = .ok (.ireturn, 1) := by decide +kernel
theorem dX8_seam_21 : decode cX8_seam 21 = .ok (.aload_n 0, 1) := by decide +kernel
theorem dX8_seam_22 : decode cX8_seam 22 = .ok (.invokevirtual 138, 3) := by decide +kernel
theorem dX8_seam_25 : decode cX8_seam 25 = .ok (.ifCond .ge 6, 3) := by decide +kernel
theorem dX8_seam_28 : decode cX8_seam 28 = .ok (.bipush (-5), 2) := by decide +kernel
theorem dX8_seam_30 : decode cX8_seam 30 = .ok (.ireturn, 1) := by decide +kernel
theorem dX8_seam_31 : decode cX8_seam 31 = .ok (.iload_n 2, 1) := by decide +kernel
theorem dX8_seam_32 : decode cX8_seam 32 = .ok (.ifCond .ne 11, 3) := by decide +kernel
theorem dX8_seam_35 : decode cX8_seam 35 = .ok (.aload_n 0, 1) := by decide +kernel
theorem dX8_seam_36 : decode cX8_seam 36 = .ok (.iload_n 1, 1) := by decide +kernel
theorem dX8_seam_37 : decode cX8_seam 37 = .ok (.invokevirtual 101, 3) := by decide +kernel
theorem dX8_seam_40 : decode cX8_seam 40 = .ok (.goto 12, 3) := by decide +kernel
theorem dX8_seam_43 : decode cX8_seam 43 = .ok (.aload_n 0, 1) := by decide +kernel
theorem dX8_seam_44 : decode cX8_seam 44 = .ok (.getfield 13, 3) := by decide +kernel
theorem dX8_seam_47 : decode cX8_seam 47 = .ok (.bipush 24, 2) := by decide +kernel
theorem dX8_seam_49 : decode cX8_seam 49 = .ok (.iload_n 1, 1) := by decide +kernel
theorem dX8_seam_50 : decode cX8_seam 50 = .ok (.iadd, 1) := by decide +kernel
theorem dX8_seam_51 : decode cX8_seam 51 = .ok (.iaload, 1) := by decide +kernel
theorem dX8_seam_52 : decode cX8_seam 52 = .ok (.ireturn, 1) := by decide +kernel
theorem dX8_coal_0 : decode cX8_coal 0 = .ok (.iconst 0, 1) := by decide +kernel
theorem dX8_coal_1 : decode cX8_coal 1 = .ok (.istore_n 1, 1) := by decide +kernel
theorem dX8_coal_2 : decode cX8_coal 2 = .ok (.iconst 0, 1) := by decide +kernel
theorem dX8_coal_3 : decode cX8_coal 3 = .ok (.istore_n 2, 1) := by decide +kernel
theorem dX8_coal_4 : decode cX8_coal 4 = .ok (.iload_n 2, 1) := by decide +kernel
theorem dX8_coal_5 : decode cX8_coal 5 = .ok (.bipush 10, 2) := by decide +kernel
theorem dX8_coal_7 : decode cX8_coal 7 = .ok (.if_icmp .ge 21, 3) := by decide +kernel
theorem dX8_coal_10 : decode cX8_coal 10 = .ok (.iload_n 1, 1) := by decide +kernel
theorem dX8_coal_11 : decode cX8_coal 11 = .ok (.aload_n 0, 1) := by decide +kernel
theorem dX8_coal_12 : decode cX8_coal 12 = .ok (.getfield 13, 3) := by decide +kernel
theorem dX8_coal_15 : decode cX8_coal 15 = .ok (.bipush 24, 2) := by decide +kernel
theorem dX8_coal_17 : decode cX8_coal 17 = .ok (.iload_n 2, 1) := by decide +kernel
theorem dX8_coal_18 : decode cX8_coal 18 = .ok (.iadd, 1) := by decide +kernel
theorem dX8_coal_19 : decode cX8_coal 19 = .ok (.iaload, 1) := by decide +kernel
theorem dX8_coal_20 : decode cX8_coal 20 = .ok (.iadd, 1) := by decide +kernel
theorem dX8_coal_21 : decode cX8_coal 21 = .ok (.istore_n 1, 1) := by decide +kernel
theorem dX8_coal_22 : decode cX8_coal 22 = .ok (.iinc 2 1, 3) := by decide +kernel
theorem dX8_coal_25 : decode cX8_coal 25 = .ok (.goto (-21), 3) := by decide +kernel
theorem dX8_coal_28 : decode cX8_coal 28 = .ok (.iload_n 1, 1) := by decide +kernel
theorem dX8_coal_29 : decode cX8_coal 29 = .ok (.ireturn, 1) := by decide +kernel
set_option maxRecDepth 20000 in
theorem ggX8_then_X8_in : GoodIn wsX8_then wsX8_in := goodIn_r _ [7] (by decide +kernel) (by decide +kernel)
set_option maxRecDepth 20000 in
theorem gX8_then_X8_in : GoodIn wsX8_then (va_wsS RX8 59 yX8_in wsX8_in) := goodIn_app (goodIn_of _ (by decide +kernel)) ggX8_then_X8_in
set_option maxRecDepth 20000 in
theorem ggX8_then_X8_barOfShifts : GoodIn wsX8_then wsX8_barOfShifts := goodIn_r _ [11, 12, 13, 14, 6, 15, 16, 17, 4, 5, 7, 18, 19, 20, 21, 22, 23, 1, 2, 3, 24, 25, 26, 27, 28, 29, 30, 31, 32, 33, 34, 35, 36, 37, 38, 39, 40, 41, 42, 43, 44, 45, 46, 47, 48, 49, 50, 51, 52, 53, 54, 55, 56, 57, 58, 59, 60, 61, 62, 63, 64, 65, 66, 67, 68, 69, 70, 71, 72, 73, 74, 75, 76, 77, 78, 79, 84, 85, 86, 87, 88, 89, 90, 91, 92, 93, 94, 95, 96, 97, 98, 99, 100, 101, 102, 103, 104, 105, 106, 107] (by decide +kernel) (by decide +kernel)
set_option maxRecDepth 20000 in
theorem gX8_then_X8_barOfShifts : GoodIn wsX8_then (wsV RX8 138 RX8 yX8_barOfShifts wsX8_barOfShifts) := goodIn_app (goodIn_of _ (by decide +kernel)) ggX8_then_X8_barOfShifts
set_option maxRecDepth 20000 in
theorem ggX8_then_X8_lamps : GoodIn wsX8_then wsX8_lamps := goodIn_r _ [32, 33, 34, 35, 6, 36, 37, 38, 39, 40, 41, 42, 1, 43, 44, 45, 46, 47, 48, 49, 50, 51, 4, 5, 7, 52, 53, 54, 55, 56, 57, 58, 84, 85, 86, 87, 88, 89, 90, 91, 92, 93, 94, 95, 96, 97, 98, 99, 100, 101, 102, 103, 104, 105, 106, 107] (by decide +kernel) (by decide +kernel)
set_option maxRecDepth 20000 in
theorem gX8_then_X8_lamps : GoodIn wsX8_then (wsV RX8 116 RX8 yX8_lamps wsX8_lamps) := goodIn_app (goodIn_of _ (by decide +kernel)) ggX8_then_X8_lamps
set_option maxRecDepth 20000 in
theorem ggX8_then_X8_coal : GoodIn wsX8_then wsX8_coal := goodIn_r _ [83, 1, 84, 85, 86, 87, 88, 89, 90, 91, 92, 93, 94, 95, 96, 97, 98, 99, 100, 101, 102, 103, 104, 105, 106, 107] (by decide +kernel) (by decide +kernel)
set_option maxRecDepth 20000 in
theorem gX8_then_X8_coal : GoodIn wsX8_then (wsV RX8 141 RX8 yX8_coal wsX8_coal) := goodIn_app (goodIn_of _ (by decide +kernel)) ggX8_then_X8_coal
theorem dX8_then_0 : decode cX8_then 0 = .ok (.iload_n 1, 1) := by decide +kernel
theorem dX8_then_1 : decode cX8_then 1 = .ok (.iconst 0, 1) := by decide +kernel
theorem dX8_then_2 : decode cX8_then 2 = .ok (.iconst 4, 1) := by decide +kernel
theorem dX8_then_3 : decode cX8_then 3 = .ok (.invokestatic 59, 3) := by decide +kernel
theorem dX8_then_6 : decode cX8_then 6 = .ok (.ifCond .ne 6, 3) := by decide +kernel
theorem dX8_then_9 : decode cX8_then 9 = .ok (.bipush (-2), 2) := by decide +kernel
theorem dX8_then_11 : decode cX8_then 11 = .ok (.ireturn, 1) := by decide +kernel
theorem dX8_then_12 : decode cX8_then 12 = .ok (.aload_n 0, 1) := by decide +kernel
theorem dX8_then_13 : decode cX8_then 13 = .ok (.invokevirtual 138, 3) := by decide +kernel
theorem dX8_then_16 : decode cX8_then 16 = .ok (.ifCond .ge 6, 3) := by decide +kernel
theorem dX8_then_19 : decode cX8_then 19 = .ok (.bipush (-5), 2) := by decide +kernel
theorem dX8_then_21 : decode cX8_then 21 = .ok (.ireturn, 1) := by decide +kernel
theorem dX8_then_22 : decode cX8_then 22 = .ok (.iload_n 1, 1) := by decide +kernel
theorem dX8_then_23 : decode cX8_then 23 = .ok (.tableswitch 43 0 2 #[25, 30, 38], 25) := by decide +kernel
theorem dX8_then_48 : decode cX8_then 48 = .ok (.aload_n 0, 1) := by decide +kernel
theorem dX8_then_49 : decode cX8_then 49 = .ok (.invokevirtual 116, 3) := by decide +kernel
theorem dX8_then_52 : decode cX8_then 52 = .ok (.ireturn, 1) := by decide +kernel
theorem dX8_then_53 : decode cX8_then 53 = .ok (.aload_n 0, 1) := by decide +kernel
theorem dX8_then_54 : decode cX8_then 54 = .ok (.getfield 13, 3) := by decide +kernel
theorem dX8_then_57 : decode cX8_then 57 = .ok (.bipush 35, 2) := by decide +kernel
theorem dX8_then_59 : decode cX8_then 59 = .ok (.iaload, 1) := by decide +kernel
theorem dX8_then_60 : decode cX8_then 60 = .ok (.ireturn, 1) := by decide +kernel
theorem dX8_then_61 : decode cX8_then 61 = .ok (.aload_n 0, 1) := by decide +kernel
theorem dX8_then_62 : decode cX8_then 62 = .ok (.invokevirtual 141, 3) := by decide +kernel
theorem dX8_then_65 : decode cX8_then 65 = .ok (.ireturn, 1) := by decide +kernel
theorem dX8_then_66 : decode cX8_then 66 = .ok (.iload_n 1, 1) := by decide +kernel
theorem dX8_then_67 : decode cX8_then 67 = .ok (.iconst 3, 1) := by decide +kernel
theorem dX8_then_68 : decode cX8_then 68 = .ok (.if_icmp .ne 10, 3) := by decide +kernel
theorem dX8_then_71 : decode cX8_then 71 = .ok (.aload_n 0, 1) := by decide +kernel
theorem dX8_then_72 : decode cX8_then 72 = .ok (.getfield 104, 3) := by decide +kernel
theorem dX8_then_75 : decode cX8_then 75 = .ok (.goto 7, 3) := by decide +kernel
theorem dX8_then_78 : decode cX8_then 78 = .ok (.aload_n 0, 1) := by decide +kernel
theorem dX8_then_79 : decode cX8_then 79 = .ok (.getfield 107, 3) := by decide +kernel
theorem dX8_then_82 : decode cX8_then 82 = .ok (.ireturn, 1) := by decide +kernel
set_option maxRecDepth 20000 in
theorem ggX8_light_X8_isGallery : GoodIn wsX8_light wsX8_isGallery := goodIn_r _ [4, 5, 6, 3, 7] (by decide +kernel) (by decide +kernel)
set_option maxRecDepth 20000 in
theorem gX8_light_X8_isGallery : GoodIn wsX8_light (va_wsS RX8 71 yX8_isGallery wsX8_isGallery) := goodIn_app (goodIn_of _ (by decide +kernel)) ggX8_light_X8_isGallery
set_option maxRecDepth 20000 in
theorem ggX8_light_X8_asNow : GoodIn wsX8_light wsX8_asNow := goodIn_r _ [11, 12, 13, 14, 15, 42, 43, 44, 45, 46, 47, 48, 49, 50, 51, 52, 53, 54, 55, 56, 57, 58, 59, 60, 61, 62, 63, 64, 65] (by decide +kernel) (by decide +kernel)
set_option maxRecDepth 20000 in
theorem gX8_light_X8_asNow : GoodIn wsX8_light (wsV RX8 110 RX8 yX8_asNow wsX8_asNow) := goodIn_app (goodIn_of _ (by decide +kernel)) ggX8_light_X8_asNow
set_option maxRecDepth 20000 in
theorem ggX8_light_X8_lightOf : GoodIn wsX8_light wsX8_lightOf := goodIn_r _ [19, 20, 21, 22, 23, 3, 24, 25, 12, 26, 27, 28, 29, 30, 31, 32, 33, 34, 5, 6, 7, 35, 36, 37, 38, 39, 40, 41, 42, 43, 44, 45, 46, 47, 48, 49, 50, 51, 52, 53, 54, 55, 56, 57, 58, 59, 60, 61, 62, 63, 64, 65] (by decide +kernel) (by decide +kernel)
set_option maxRecDepth 20000 in
theorem gX8_light_X8_lightOf : GoodIn wsX8_light (wsV RX8 101 RX8 yX8_lightOf wsX8_lightOf) := goodIn_app (goodIn_of _ (by decide +kernel)) ggX8_light_X8_lightOf
theorem dX8_light_0 : decode cX8_light 0 = .ok (.iload_n 1, 1) := by decide +kernel
theorem dX8_light_1 : decode cX8_light 1 = .ok (.invokestatic 71, 3) := by decide +kernel
theorem dX8_light_4 : decode cX8_light 4 = .ok (.ifCond .ne 5, 3) := by decide +kernel
theorem dX8_light_7 : decode cX8_light 7 = .ok (.iconst (-1), 1) := by decide +kernel
theorem dX8_light_8 : decode cX8_light 8 = .ok (.ireturn, 1) := by decide +kernel
theorem dX8_light_9 : decode cX8_light 9 = .ok (.aload_n 0, 1) := by decide +kernel
theorem dX8_light_10 : decode cX8_light 10 = .ok (.invokevirtual 110, 3) := by decide +kernel
theorem dX8_light_13 : decode cX8_light 13 = .ok (.aload_n 0, 1) := by decide +kernel
theorem dX8_light_14 : decode cX8_light 14 = .ok (.iload_n 1, 1) := by decide +kernel
theorem dX8_light_15 : decode cX8_light 15 = .ok (.invokevirtual 101, 3) := by decide +kernel
theorem dX8_light_18 : decode cX8_light 18 = .ok (.ireturn, 1) := by decide +kernel
set_option maxRecDepth 20000 in
theorem ggX8_shakes_X8_asNow : GoodIn wsX8_shakes wsX8_asNow := goodIn_r _ [6, 1, 7, 8, 9, 25, 26, 27, 28, 29, 30, 31, 32, 33, 34, 35, 36, 37, 38, 39, 40, 41, 42, 43, 44, 45, 46, 47, 48] (by decide +kernel) (by decide +kernel)
set_option maxRecDepth 20000 in
theorem gX8_shakes_X8_asNow : GoodIn wsX8_shakes (wsV RX8 110 RX8 yX8_asNow wsX8_asNow) := goodIn_app (goodIn_of _ (by decide +kernel)) ggX8_shakes_X8_asNow
set_option maxRecDepth 20000 in
theorem ggX8_shakes_X8_sings : GoodIn wsX8_shakes wsX8_sings := goodIn_r _ [13, 1, 14, 15, 16, 5, 17, 18, 19, 20, 21, 22, 23, 24, 25, 26, 27, 28, 29, 30, 31, 32, 33, 34, 35, 36, 37, 38, 39, 40, 41, 42, 43, 44, 45, 46, 47, 48] (by decide +kernel) (by decide +kernel)
set_option maxRecDepth 20000 in
theorem gX8_shakes_X8_sings : GoodIn wsX8_shakes (wsV RX8 92 RX8 yX8_sings wsX8_sings) := goodIn_app (goodIn_of _ (by decide +kernel)) ggX8_shakes_X8_sings
theorem dX8_shakes_0 : decode cX8_shakes 0 = .ok (.aload_n 0, 1) := by decide +kernel
theorem dX8_shakes_1 : decode cX8_shakes 1 = .ok (.invokevirtual 110, 3) := by decide +kernel
theorem dX8_shakes_4 : decode cX8_shakes 4 = .ok (.iconst 0, 1) := by decide +kernel
theorem dX8_shakes_5 : decode cX8_shakes 5 = .ok (.istore_n 1, 1) := by decide +kernel
theorem dX8_shakes_6 : decode cX8_shakes 6 = .ok (.iconst 0, 1) := by decide +kernel
theorem dX8_shakes_7 : decode cX8_shakes 7 = .ok (.istore_n 2, 1) := by decide +kernel
theorem dX8_shakes_8 : decode cX8_shakes 8 = .ok (.iload_n 2, 1) := by decide +kernel
theorem dX8_shakes_9 : decode cX8_shakes 9 = .ok (.bipush 8, 2) := by decide +kernel
theorem dX8_shakes_11 : decode cX8_shakes 11 = .ok (.if_icmp .ge 82, 3) := by decide +kernel
theorem dX8_shakes_14 : decode cX8_shakes 14 = .ok (.iconst 0, 1) := by decide +kernel
theorem dX8_shakes_15 : decode cX8_shakes 15 = .ok (.istore_n 3, 1) := by decide +kernel
theorem dX8_shakes_16 : decode cX8_shakes 16 = .ok (.iload_n 3, 1) := by decide +kernel
theorem dX8_shakes_17 : decode cX8_shakes 17 = .ok (.bipush 8, 2) := by decide +kernel
theorem dX8_shakes_19 : decode cX8_shakes 19 = .ok (.if_icmp .ge 68, 3) := by decide +kernel
theorem dX8_shakes_22 : decode cX8_shakes 22 = .ok (.aload_n 0, 1) := by decide +kernel
theorem dX8_shakes_23 : decode cX8_shakes 23 = .ok (.getfield 13, 3) := by decide +kernel
theorem dX8_shakes_26 : decode cX8_shakes 26 = .ok (.bipush 16, 2) := by decide +kernel
theorem dX8_shakes_28 : decode cX8_shakes 28 = .ok (.iload_n 2, 1) := by decide +kernel
theorem dX8_shakes_29 : decode cX8_shakes 29 = .ok (.iadd, 1) := by decide +kernel
theorem dX8_shakes_30 : decode cX8_shakes 30 = .ok (.iaload, 1) := by decide +kernel
theorem dX8_shakes_31 : decode cX8_shakes 31 = .ok (.istore 4, 2) := by decide +kernel
theorem dX8_shakes_33 : decode cX8_shakes 33 = .ok (.iload_n 1, 1) := by decide +kernel
theorem dX8_shakes_34 : decode cX8_shakes 34 = .ok (.aload_n 0, 1) := by decide +kernel
theorem dX8_shakes_35 : decode cX8_shakes 35 = .ok (.iload_n 2, 1) := by decide +kernel
theorem dX8_shakes_36 : decode cX8_shakes 36 = .ok (.iload 4, 2) := by decide +kernel
theorem dX8_shakes_38 : decode cX8_shakes 38 = .ok (.invokevirtual 92, 3) := by decide +kernel
theorem dX8_shakes_41 : decode cX8_shakes 41 = .ok (.ifCond .eq 37, 3) := by decide +kernel
theorem dX8_shakes_44 : decode cX8_shakes 44 = .ok (.aload_n 0, 1) := by decide +kernel
theorem dX8_shakes_45 : decode cX8_shakes 45 = .ok (.iload_n 3, 1) := by decide +kernel
theorem dX8_shakes_46 : decode cX8_shakes 46 = .ok (.iload 4, 2) := by decide +kernel
theorem dX8_shakes_48 : decode cX8_shakes 48 = .ok (.invokevirtual 92, 3) := by decide +kernel
theorem dX8_shakes_51 : decode cX8_shakes 51 = .ok (.ifCond .eq 27, 3) := by decide +kernel
theorem dX8_shakes_54 : decode cX8_shakes 54 = .ok (.aload_n 0, 1) := by decide +kernel
theorem dX8_shakes_55 : decode cX8_shakes 55 = .ok (.getfield 13, 3) := by decide +kernel
theorem dX8_shakes_58 : decode cX8_shakes 58 = .ok (.iload_n 2, 1) := by decide +kernel
theorem dX8_shakes_59 : decode cX8_shakes 59 = .ok (.iaload, 1) := by decide +kernel
theorem dX8_shakes_60 : decode cX8_shakes 60 = .ok (.aload_n 0, 1) := by decide +kernel
theorem dX8_shakes_61 : decode cX8_shakes 61 = .ok (.getfield 13, 3) := by decide +kernel
theorem dX8_shakes_64 : decode cX8_shakes 64 = .ok (.iload_n 3, 1) := by decide +kernel
theorem dX8_shakes_65 : decode cX8_shakes 65 = .ok (.iaload, 1) := by decide +kernel
theorem dX8_shakes_66 : decode cX8_shakes 66 = .ok (.iconst 1, 1) := by decide +kernel
theorem dX8_shakes_67 : decode cX8_shakes 67 = .ok (.iadd, 1) := by decide +kernel
theorem dX8_shakes_68 : decode cX8_shakes 68 = .ok (.if_icmp .ne 10, 3) := by decide +kernel
theorem dX8_shakes_71 : decode cX8_shakes 71 = .ok (.iconst 1, 1) := by decide +kernel
theorem dX8_shakes_72 : decode cX8_shakes 72 = .ok (.iload 4, 2) := by decide +kernel
theorem dX8_shakes_74 : decode cX8_shakes 74 = .ok (.ishl, 1) := by decide +kernel
theorem dX8_shakes_75 : decode cX8_shakes 75 = .ok (.goto 4, 3) := by decide +kernel
theorem dX8_shakes_78 : decode cX8_shakes 78 = .ok (.iconst 0, 1) := by decide +kernel
theorem dX8_shakes_79 : decode cX8_shakes 79 = .ok (.ior, 1) := by decide +kernel
theorem dX8_shakes_80 : decode cX8_shakes 80 = .ok (.istore_n 1, 1) := by decide +kernel
theorem dX8_shakes_81 : decode cX8_shakes 81 = .ok (.iinc 3 1, 3) := by decide +kernel
theorem dX8_shakes_84 : decode cX8_shakes 84 = .ok (.goto (-68), 3) := by decide +kernel
theorem dX8_shakes_87 : decode cX8_shakes 87 = .ok (.iinc 2 1, 3) := by decide +kernel
theorem dX8_shakes_90 : decode cX8_shakes 90 = .ok (.goto (-82), 3) := by decide +kernel
theorem dX8_shakes_93 : decode cX8_shakes 93 = .ok (.iload_n 1, 1) := by decide +kernel
theorem dX8_shakes_94 : decode cX8_shakes 94 = .ok (.ireturn, 1) := by decide +kernel
set_option maxRecDepth 20000 in
theorem ggX8_layFar_X8_has : GoodIn wsX8_layFar wsX8_has := goodIn_r _ [7] (by decide +kernel) (by decide +kernel)
set_option maxRecDepth 20000 in
theorem gX8_layFar_X8_has : GoodIn wsX8_layFar (va_wsS RX8 67 yX8_has wsX8_has) := goodIn_app (goodIn_of _ (by decide +kernel)) ggX8_layFar_X8_has
theorem dX8_layFar_0 : decode cX8_layFar 0 = .ok (.iconst 0, 1) := by decide +kernel
theorem dX8_layFar_1 : decode cX8_layFar 1 = .ok (.istore_n 3, 1) := by decide +kernel
theorem dX8_layFar_2 : decode cX8_layFar 2 = .ok (.iload_n 3, 1) := by decide +kernel
theorem dX8_layFar_3 : decode cX8_layFar 3 = .ok (.bipush 10, 2) := by decide +kernel
theorem dX8_layFar_5 : decode cX8_layFar 5 = .ok (.if_icmp .ge 34, 3) := by decide +kernel
theorem dX8_layFar_8 : decode cX8_layFar 8 = .ok (.aload_n 0, 1) := by decide +kernel
theorem dX8_layFar_9 : decode cX8_layFar 9 = .ok (.getfield 40, 3) := by decide +kernel
theorem dX8_layFar_12 : decode cX8_layFar 12 = .ok (.iload_n 3, 1) := by decide +kernel
theorem dX8_layFar_13 : decode cX8_layFar 13 = .ok (.iload_n 3, 1) := by decide +kernel
theorem dX8_layFar_14 : decode cX8_layFar 14 = .ok (.iload_n 1, 1) := by decide +kernel
theorem dX8_layFar_15 : decode cX8_layFar 15 = .ok (.if_icmp .ne 15, 3) := by decide +kernel
theorem dX8_layFar_18 : decode cX8_layFar 18 = .ok (.iload_n 2, 1) := by decide +kernel
theorem dX8_layFar_19 : decode cX8_layFar 19 = .ok (.iload_n 3, 1) := by decide +kernel
theorem dX8_layFar_20 : decode cX8_layFar 20 = .ok (.invokestatic 67, 3) := by decide +kernel
theorem dX8_layFar_23 : decode cX8_layFar 23 = .ok (.ifCond .eq 7, 3) := by decide +kernel
theorem dX8_layFar_26 : decode cX8_layFar 26 = .ok (.iconst 0, 1) := by decide +kernel
theorem dX8_layFar_27 : decode cX8_layFar 27 = .ok (.goto 5, 3) := by decide +kernel
theorem dX8_layFar_30 : decode cX8_layFar 30 = .ok (.ldc 144, 2) := by decide +kernel
theorem dX8_layFar_32 : decode cX8_layFar 32 = .ok (.iastore, 1) := by decide +kernel
theorem dX8_layFar_33 : decode cX8_layFar 33 = .ok (.iinc 3 1, 3) := by decide +kernel
theorem dX8_layFar_36 : decode cX8_layFar 36 = .ok (.goto (-34), 3) := by decide +kernel
theorem dX8_layFar_39 : decode cX8_layFar 39 = .ok (.iconst 0, 1) := by decide +kernel
theorem dX8_layFar_40 : decode cX8_layFar 40 = .ok (.istore_n 3, 1) := by decide +kernel
theorem dX8_layFar_41 : decode cX8_layFar 41 = .ok (.iload_n 3, 1) := by decide +kernel
theorem dX8_layFar_42 : decode cX8_layFar 42 = .ok (.bipush 10, 2) := by decide +kernel
theorem dX8_layFar_44 : decode cX8_layFar 44 = .ok (.if_icmp .ge 110, 3) := by decide +kernel
theorem dX8_layFar_47 : decode cX8_layFar 47 = .ok (.iconst 0, 1) := by decide +kernel
theorem dX8_layFar_48 : decode cX8_layFar 48 = .ok (.istore 4, 2) := by decide +kernel
theorem dX8_layFar_50 : decode cX8_layFar 50 = .ok (.iload 4, 2) := by decide +kernel
theorem dX8_layFar_52 : decode cX8_layFar 52 = .ok (.bipush 10, 2) := by decide +kernel
theorem dX8_layFar_54 : decode cX8_layFar 54 = .ok (.if_icmp .ge 94, 3) := by decide +kernel
theorem dX8_layFar_57 : decode cX8_layFar 57 = .ok (.iconst 0, 1) := by decide +kernel
theorem dX8_layFar_58 : decode cX8_layFar 58 = .ok (.istore 5, 2) := by decide +kernel
theorem dX8_layFar_60 : decode cX8_layFar 60 = .ok (.iload 5, 2) := by decide +kernel
theorem dX8_layFar_62 : decode cX8_layFar 62 = .ok (.bipush 10, 2) := by decide +kernel
theorem dX8_layFar_64 : decode cX8_layFar 64 = .ok (.if_icmp .ge 78, 3) := by decide +kernel
theorem dX8_layFar_67 : decode cX8_layFar 67 = .ok (.aload_n 0, 1) := by decide +kernel
theorem dX8_layFar_68 : decode cX8_layFar 68 = .ok (.getfield 40, 3) := by decide +kernel
theorem dX8_layFar_71 : decode cX8_layFar 71 = .ok (.iload 5, 2) := by decide +kernel
theorem dX8_layFar_73 : decode cX8_layFar 73 = .ok (.aload_n 0, 1) := by decide +kernel
theorem dX8_layFar_74 : decode cX8_layFar 74 = .ok (.getfield 25, 3) := by decide +kernel
theorem dX8_layFar_77 : decode cX8_layFar 77 = .ok (.iload 4, 2) := by decide +kernel
theorem dX8_layFar_79 : decode cX8_layFar 79 = .ok (.iaload, 1) := by decide +kernel
theorem dX8_layFar_80 : decode cX8_layFar 80 = .ok (.iload 5, 2) := by decide +kernel
theorem dX8_layFar_82 : decode cX8_layFar 82 = .ok (.invokestatic 67, 3) := by decide +kernel
theorem dX8_layFar_85 : decode cX8_layFar 85 = .ok (.ifCond .eq 43, 3) := by decide +kernel
theorem dX8_layFar_88 : decode cX8_layFar 88 = .ok (.iload_n 2, 1) := by decide +kernel
theorem dX8_layFar_89 : decode cX8_layFar 89 = .ok (.iload 5, 2) := by decide +kernel
theorem dX8_layFar_91 : decode cX8_layFar 91 = .ok (.invokestatic 67, 3) := by decide +kernel
theorem dX8_layFar_94 : decode cX8_layFar 94 = .ok (.ifCond .eq 34, 3) := by decide +kernel
theorem dX8_layFar_97 : decode cX8_layFar 97 = .ok (.aload_n 0, 1) := by decide +kernel
theorem dX8_layFar_98 : decode cX8_layFar 98 = .ok (.getfield 40, 3) := by decide +kernel
theorem dX8_layFar_101 : decode cX8_layFar 101 = .ok (.iload 4, 2) := by decide +kernel
theorem dX8_layFar_103 : decode cX8_layFar 103 = .ok (.iaload, 1) := by decide +kernel
theorem dX8_layFar_104 : decode cX8_layFar 104 = .ok (.iconst 1, 1) := by decide +kernel
theorem dX8_layFar_105 : decode cX8_layFar 105 = .ok (.iadd, 1) := by decide +kernel
theorem dX8_layFar_106 : decode cX8_layFar 106 = .ok (.aload_n 0, 1) := by decide +kernel
theorem dX8_layFar_107 : decode cX8_layFar 107 = .ok (.getfield 40, 3) := by decide +kernel
theorem dX8_layFar_110 : decode cX8_layFar 110 = .ok (.iload 5, 2) := by decide +kernel
theorem dX8_layFar_112 : decode cX8_layFar 112 = .ok (.iaload, 1) := by decide +kernel
theorem dX8_layFar_113 : decode cX8_layFar 113 = .ok (.if_icmp .ge 15, 3) := by decide +kernel
theorem dX8_layFar_116 : decode cX8_layFar 116 = .ok (.aload_n 0, 1) := by decide +kernel
theorem dX8_layFar_117 : decode cX8_layFar 117 = .ok (.getfield 40, 3) := by decide +kernel
theorem dX8_layFar_120 : decode cX8_layFar 120 = .ok (.iload 4, 2) := by decide +kernel
theorem dX8_layFar_122 : decode cX8_layFar 122 = .ok (.iaload, 1) := by decide +kernel
theorem dX8_layFar_123 : decode cX8_layFar 123 = .ok (.iconst 1, 1) := by decide +kernel
theorem dX8_layFar_124 : decode cX8_layFar 124 = .ok (.iadd, 1) := by decide +kernel
theorem dX8_layFar_125 : decode cX8_layFar 125 = .ok (.goto 10, 3) := by decide +kernel
theorem dX8_layFar_128 : decode cX8_layFar 128 = .ok (.aload_n 0, 1) := by decide +kernel
theorem dX8_layFar_129 : decode cX8_layFar 129 = .ok (.getfield 40, 3) := by decide +kernel
theorem dX8_layFar_132 : decode cX8_layFar 132 = .ok (.iload 5, 2) := by decide +kernel
theorem dX8_layFar_134 : decode cX8_layFar 134 = .ok (.iaload, 1) := by decide +kernel
theorem dX8_layFar_135 : decode cX8_layFar 135 = .ok (.iastore, 1) := by decide +kernel
theorem dX8_layFar_136 : decode cX8_layFar 136 = .ok (.iinc 5 1, 3) := by decide +kernel
theorem dX8_layFar_139 : decode cX8_layFar 139 = .ok (.goto (-79), 3) := by decide +kernel
theorem dX8_layFar_142 : decode cX8_layFar 142 = .ok (.iinc 4 1, 3) := by decide +kernel
theorem dX8_layFar_145 : decode cX8_layFar 145 = .ok (.goto (-95), 3) := by decide +kernel
theorem dX8_layFar_148 : decode cX8_layFar 148 = .ok (.iinc 3 1, 3) := by decide +kernel
theorem dX8_layFar_151 : decode cX8_layFar 151 = .ok (.goto (-110), 3) := by decide +kernel
theorem dX8_layFar_154 : decode cX8_layFar 154 = .ok (.return_, 1) := by decide +kernel
set_option maxRecDepth 20000 in
theorem ggX8_way_X8_isGallery : GoodIn wsX8_way wsX8_isGallery := goodIn_r _ [8, 9, 10, 7, 11] (by decide +kernel) (by decide +kernel)
set_option maxRecDepth 20000 in
theorem gX8_way_X8_isGallery : GoodIn wsX8_way (va_wsS RX8 71 yX8_isGallery wsX8_isGallery) := goodIn_app (goodIn_of _ (by decide +kernel)) ggX8_way_X8_isGallery
set_option maxRecDepth 20000 in
theorem ggX8_way_X8_in : GoodIn wsX8_way wsX8_in := goodIn_r _ [11] (by decide +kernel) (by decide +kernel)
set_option maxRecDepth 20000 in
theorem gX8_way_X8_in : GoodIn wsX8_way (va_wsS RX8 59 yX8_in wsX8_in) := goodIn_app (goodIn_of _ (by decide +kernel)) ggX8_way_X8_in
set_option maxRecDepth 20000 in
theorem ggX8_way_X8_asNow : GoodIn wsX8_way wsX8_asNow := goodIn_r _ [15, 16, 1, 17, 18, 53, 54, 55, 56, 57, 58, 59, 60, 61, 62, 63, 64, 65, 66, 67, 68, 69, 70, 71, 72, 73, 74, 75, 76] (by decide +kernel) (by decide +kernel)
set_option maxRecDepth 20000 in
theorem gX8_way_X8_asNow : GoodIn wsX8_way (wsV RX8 110 RX8 yX8_asNow wsX8_asNow) := goodIn_app (goodIn_of _ (by decide +kernel)) ggX8_way_X8_asNow
set_option maxRecDepth 20000 in
theorem ggX8_way_X8_lamps : GoodIn wsX8_way wsX8_lamps := goodIn_r _ [22, 23, 24, 25, 7, 26, 27, 28, 29, 30, 31, 32, 16, 33, 34, 35, 36, 37, 38, 39, 40, 41, 9, 10, 11, 42, 43, 44, 45, 46, 47, 48, 53, 54, 55, 56, 57, 58, 59, 60, 61, 62, 63, 64, 65, 66, 67, 68, 69, 70, 71, 72, 73, 74, 75, 76] (by decide +kernel) (by decide +kernel)
set_option maxRecDepth 20000 in
theorem gX8_way_X8_lamps : GoodIn wsX8_way (wsV RX8 116 RX8 yX8_lamps wsX8_lamps) := goodIn_app (goodIn_of _ (by decide +kernel)) ggX8_way_X8_lamps
set_option maxRecDepth 20000 in
theorem ggX8_way_X8_layFar : GoodIn wsX8_way wsX8_layFar := goodIn_r _ [52, 2, 3, 4, 42, 43, 7, 44, 53, 54, 55, 56, 57, 58, 59, 60, 61, 62, 63, 64, 65, 66, 67, 68, 69, 70, 71, 72, 73, 74, 75, 76] (by decide +kernel) (by decide +kernel)
set_option maxRecDepth 20000 in
theorem gX8_way_X8_layFar : GoodIn wsX8_way (wsV RX8 145 RX8 yX8_layFar wsX8_layFar) := goodIn_app (goodIn_of _ (by decide +kernel)) ggX8_way_X8_layFar
set_option maxRecDepth 20000 in
theorem ggX8_way_X8_has : GoodIn wsX8_way wsX8_has := goodIn_r _ [44] (by decide +kernel) (by decide +kernel)
set_option maxRecDepth 20000 in
theorem gX8_way_X8_has : GoodIn wsX8_way (va_wsS RX8 67 yX8_has wsX8_has) := goodIn_app (goodIn_of _ (by decide +kernel)) ggX8_way_X8_has
theorem dX8_way_0 : decode cX8_way 0 = .ok (.iload_n 1, 1) := by decide +kernel
theorem dX8_way_1 : decode cX8_way 1 = .ok (.invokestatic 71, 3) := by decide +kernel
theorem dX8_way_4 : decode cX8_way 4 = .ok (.ifCond .eq 10, 3) := by decide +kernel
theorem dX8_way_7 : decode cX8_way 7 = .ok (.iload_n 2, 1) := by decide +kernel
theorem dX8_way_8 : decode cX8_way 8 = .ok (.invokestatic 71, 3) := by decide +kernel
theorem dX8_way_11 : decode cX8_way 11 = .ok (.ifCond .ne 5, 3) := by decide +kernel
theorem dX8_way_14 : decode cX8_way 14 = .ok (.iconst (-1), 1) := by decide +kernel
theorem dX8_way_15 : decode cX8_way 15 = .ok (.ireturn, 1) := by decide +kernel
theorem dX8_way_16 : decode cX8_way 16 = .ok (.iload_n 3, 1) := by decide +kernel
theorem dX8_way_17 : decode cX8_way 17 = .ok (.iconst 0, 1) := by decide +kernel
theorem dX8_way_18 : decode cX8_way 18 = .ok (.iconst 1, 1) := by decide +kernel
theorem dX8_way_19 : decode cX8_way 19 = .ok (.invokestatic 59, 3) := by decide +kernel
theorem dX8_way_22 : decode cX8_way 22 = .ok (.ifCond .ne 6, 3) := by decide +kernel
theorem dX8_way_25 : decode cX8_way 25 = .ok (.bipush (-2), 2) := by decide +kernel
theorem dX8_way_27 : decode cX8_way 27 = .ok (.ireturn, 1) := by decide +kernel
theorem dX8_way_28 : decode cX8_way 28 = .ok (.aload_n 0, 1) := by decide +kernel
theorem dX8_way_29 : decode cX8_way 29 = .ok (.invokevirtual 110, 3) := by decide +kernel
theorem dX8_way_32 : decode cX8_way 32 = .ok (.aload_n 0, 1) := by decide +kernel
theorem dX8_way_33 : decode cX8_way 33 = .ok (.iload_n 2, 1) := by decide +kernel
theorem dX8_way_34 : decode cX8_way 34 = .ok (.aload_n 0, 1) := by decide +kernel
theorem dX8_way_35 : decode cX8_way 35 = .ok (.invokevirtual 116, 3) := by decide +kernel
theorem dX8_way_38 : decode cX8_way 38 = .ok (.aload_n 0, 1) := by decide +kernel
theorem dX8_way_39 : decode cX8_way 39 = .ok (.getfield 7, 3) := by decide +kernel
theorem dX8_way_42 : decode cX8_way 42 = .ok (.bipush 34, 2) := by decide +kernel
theorem dX8_way_44 : decode cX8_way 44 = .ok (.iaload, 1) := by decide +kernel
theorem dX8_way_45 : decode cX8_way 45 = .ok (.iconst (-1), 1) := by decide +kernel
theorem dX8_way_46 : decode cX8_way 46 = .ok (.ixor, 1) := by decide +kernel
theorem dX8_way_47 : decode cX8_way 47 = .ok (.iand, 1) := by decide +kernel
theorem dX8_way_48 : decode cX8_way 48 = .ok (.invokevirtual 145, 3) := by decide +kernel
theorem dX8_way_51 : decode cX8_way 51 = .ok (.aload_n 0, 1) := by decide +kernel
theorem dX8_way_52 : decode cX8_way 52 = .ok (.getfield 40, 3) := by decide +kernel
theorem dX8_way_55 : decode cX8_way 55 = .ok (.iload_n 1, 1) := by decide +kernel
theorem dX8_way_56 : decode cX8_way 56 = .ok (.iaload, 1) := by decide +kernel
theorem dX8_way_57 : decode cX8_way 57 = .ok (.ldc 144, 2) := by decide +kernel
theorem dX8_way_59 : decode cX8_way 59 = .ok (.if_icmp .lt 6, 3) := by decide +kernel
theorem dX8_way_62 : decode cX8_way 62 = .ok (.bipush (-6), 2) := by decide +kernel
theorem dX8_way_64 : decode cX8_way 64 = .ok (.ireturn, 1) := by decide +kernel
theorem dX8_way_65 : decode cX8_way 65 = .ok (.iload_n 3, 1) := by decide +kernel
theorem dX8_way_66 : decode cX8_way 66 = .ok (.ifCond .ne 10, 3) := by decide +kernel
theorem dX8_way_69 : decode cX8_way 69 = .ok (.aload_n 0, 1) := by decide +kernel
theorem dX8_way_70 : decode cX8_way 70 = .ok (.getfield 40, 3) := by decide +kernel
theorem dX8_way_73 : decode cX8_way 73 = .ok (.iload_n 1, 1) := by decide +kernel
theorem dX8_way_74 : decode cX8_way 74 = .ok (.iaload, 1) := by decide +kernel
theorem dX8_way_75 : decode cX8_way 75 = .ok (.ireturn, 1) := by decide +kernel
theorem dX8_way_76 : decode cX8_way 76 = .ok (.bipush (-6), 2) := by decide +kernel
theorem dX8_way_78 : decode cX8_way 78 = .ok (.istore 4, 2) := by decide +kernel
theorem dX8_way_80 : decode cX8_way 80 = .ok (.bipush 9, 2) := by decide +kernel
theorem dX8_way_82 : decode cX8_way 82 = .ok (.istore 5, 2) := by decide +kernel
theorem dX8_way_84 : decode cX8_way 84 = .ok (.iload 5, 2) := by decide +kernel
theorem dX8_way_86 : decode cX8_way 86 = .ok (.ifCond .lt 55, 3) := by decide +kernel
theorem dX8_way_89 : decode cX8_way 89 = .ok (.iload_n 1, 1) := by decide +kernel
theorem dX8_way_90 : decode cX8_way 90 = .ok (.iload_n 2, 1) := by decide +kernel
theorem dX8_way_91 : decode cX8_way 91 = .ok (.if_icmp .eq 50, 3) := by decide +kernel
theorem dX8_way_94 : decode cX8_way 94 = .ok (.aload_n 0, 1) := by decide +kernel
theorem dX8_way_95 : decode cX8_way 95 = .ok (.getfield 25, 3) := by decide +kernel
theorem dX8_way_98 : decode cX8_way 98 = .ok (.iload_n 1, 1) := by decide +kernel
theorem dX8_way_99 : decode cX8_way 99 = .ok (.iaload, 1) := by decide +kernel
theorem dX8_way_100 : decode cX8_way 100 = .ok (.iload 5, 2) := by decide +kernel
theorem dX8_way_102 : decode cX8_way 102 = .ok (.invokestatic 67, 3) := by decide +kernel
theorem dX8_way_105 : decode cX8_way 105 = .ok (.ifCond .eq 26, 3) := by decide +kernel
theorem dX8_way_108 : decode cX8_way 108 = .ok (.aload_n 0, 1) := by decide +kernel
theorem dX8_way_109 : decode cX8_way 109 = .ok (.getfield 40, 3) := by decide +kernel
theorem dX8_way_112 : decode cX8_way 112 = .ok (.iload 5, 2) := by decide +kernel
theorem dX8_way_114 : decode cX8_way 114 = .ok (.iaload, 1) := by decide +kernel
theorem dX8_way_115 : decode cX8_way 115 = .ok (.iconst 1, 1) := by decide +kernel
theorem dX8_way_116 : decode cX8_way 116 = .ok (.iadd, 1) := by decide +kernel
theorem dX8_way_117 : decode cX8_way 117 = .ok (.aload_n 0, 1) := by decide +kernel
theorem dX8_way_118 : decode cX8_way 118 = .ok (.getfield 40, 3) := by decide +kernel
theorem dX8_way_121 : decode cX8_way 121 = .ok (.iload_n 1, 1) := by decide +kernel
theorem dX8_way_122 : decode cX8_way 122 = .ok (.iaload, 1) := by decide +kernel
theorem dX8_way_123 : decode cX8_way 123 = .ok (.if_icmp .ne 8, 3) := by decide +kernel
theorem dX8_way_126 : decode cX8_way 126 = .ok (.iload 5, 2) := by decide +kernel
theorem dX8_way_128 : decode cX8_way 128 = .ok (.goto 5, 3) := by decide +kernel
theorem dX8_way_131 : decode cX8_way 131 = .ok (.iload 4, 2) := by decide +kernel
theorem dX8_way_133 : decode cX8_way 133 = .ok (.istore 4, 2) := by decide +kernel
theorem dX8_way_135 : decode cX8_way 135 = .ok (.iinc 5 (-1), 3) := by decide +kernel
theorem dX8_way_138 : decode cX8_way 138 = .ok (.goto (-54), 3) := by decide +kernel
theorem dX8_way_141 : decode cX8_way 141 = .ok (.iload 4, 2) := by decide +kernel
theorem dX8_way_143 : decode cX8_way 143 = .ok (.ireturn, 1) := by decide +kernel
set_option maxRecDepth 20000 in
theorem ggX8_fewest_X8_in : GoodIn wsX8_fewest wsX8_in := goodIn_r _ [5] (by decide +kernel) (by decide +kernel)
set_option maxRecDepth 20000 in
theorem gX8_fewest_X8_in : GoodIn wsX8_fewest (va_wsS RX8 59 yX8_in wsX8_in) := goodIn_app (goodIn_of _ (by decide +kernel)) ggX8_fewest_X8_in
set_option maxRecDepth 20000 in
theorem ggX8_fewest_X8_has : GoodIn wsX8_fewest wsX8_has := goodIn_r _ [8] (by decide +kernel) (by decide +kernel)
set_option maxRecDepth 20000 in
theorem gX8_fewest_X8_has : GoodIn wsX8_fewest (va_wsS RX8 67 yX8_has wsX8_has) := goodIn_app (goodIn_of _ (by decide +kernel)) ggX8_fewest_X8_has
set_option maxRecDepth 20000 in
theorem ggX8_fewest_X8_bits : GoodIn wsX8_fewest wsX8_bits := goodIn_r _ [11] (by decide +kernel) (by decide +kernel)
set_option maxRecDepth 20000 in
theorem gX8_fewest_X8_bits : GoodIn wsX8_fewest (va_wsS RX8 75 yX8_bits wsX8_bits) := goodIn_app (goodIn_of _ (by decide +kernel)) ggX8_fewest_X8_bits
theorem dX8_fewest_0 : decode cX8_fewest 0 = .ok (.iload_n 1, 1) := by decide +kernel
theorem dX8_fewest_1 : decode cX8_fewest 1 = .ok (.iconst 0, 1) := by decide +kernel
theorem dX8_fewest_2 : decode cX8_fewest 2 = .ok (.sipush 1023, 3) := by decide +kernel
theorem dX8_fewest_5 : decode cX8_fewest 5 = .ok (.invokestatic 59, 3) := by decide +kernel
theorem dX8_fewest_8 : decode cX8_fewest 8 = .ok (.ifCond .eq 12, 3) := by decide +kernel
theorem dX8_fewest_11 : decode cX8_fewest 11 = .ok (.iload_n 2, 1) := by decide +kernel
theorem dX8_fewest_12 : decode cX8_fewest 12 = .ok (.iconst 0, 1) := by decide +kernel
theorem dX8_fewest_13 : decode cX8_fewest 13 = .ok (.iconst 1, 1) := by decide +kernel
theorem dX8_fewest_14 : decode cX8_fewest 14 = .ok (.invokestatic 59, 3) := by decide +kernel
theorem dX8_fewest_17 : decode cX8_fewest 17 = .ok (.ifCond .ne 6, 3) := by decide +kernel
theorem dX8_fewest_20 : decode cX8_fewest 20 = .ok (.bipush (-2), 2) := by decide +kernel
theorem dX8_fewest_22 : decode cX8_fewest 22 = .ok (.ireturn, 1) := by decide +kernel
theorem dX8_fewest_23 : decode cX8_fewest 23 = .ok (.sipush 1023, 3) := by decide +kernel
theorem dX8_fewest_26 : decode cX8_fewest 26 = .ok (.istore_n 3, 1) := by decide +kernel
theorem dX8_fewest_27 : decode cX8_fewest 27 = .ok (.iconst 0, 1) := by decide +kernel
theorem dX8_fewest_28 : decode cX8_fewest 28 = .ok (.istore 4, 2) := by decide +kernel
theorem dX8_fewest_30 : decode cX8_fewest 30 = .ok (.iload 4, 2) := by decide +kernel
theorem dX8_fewest_32 : decode cX8_fewest 32 = .ok (.sipush 1024, 3) := by decide +kernel
theorem dX8_fewest_35 : decode cX8_fewest 35 = .ok (.if_icmp .ge 85, 3) := by decide +kernel
theorem dX8_fewest_38 : decode cX8_fewest 38 = .ok (.iload 4, 2) := by decide +kernel
theorem dX8_fewest_40 : decode cX8_fewest 40 = .ok (.istore 5, 2) := by decide +kernel
theorem dX8_fewest_42 : decode cX8_fewest 42 = .ok (.iconst 0, 1) := by decide +kernel
theorem dX8_fewest_43 : decode cX8_fewest 43 = .ok (.istore 6, 2) := by decide +kernel
theorem dX8_fewest_45 : decode cX8_fewest 45 = .ok (.iload 6, 2) := by decide +kernel
theorem dX8_fewest_47 : decode cX8_fewest 47 = .ok (.bipush 10, 2) := by decide +kernel
theorem dX8_fewest_49 : decode cX8_fewest 49 = .ok (.if_icmp .ge 37, 3) := by decide +kernel
theorem dX8_fewest_52 : decode cX8_fewest 52 = .ok (.iload 5, 2) := by decide +kernel
theorem dX8_fewest_54 : decode cX8_fewest 54 = .ok (.iload 4, 2) := by decide +kernel
theorem dX8_fewest_56 : decode cX8_fewest 56 = .ok (.iload 6, 2) := by decide +kernel
theorem dX8_fewest_58 : decode cX8_fewest 58 = .ok (.invokestatic 67, 3) := by decide +kernel
theorem dX8_fewest_61 : decode cX8_fewest 61 = .ok (.ifCond .eq 15, 3) := by decide +kernel
theorem dX8_fewest_64 : decode cX8_fewest 64 = .ok (.iconst 1, 1) := by decide +kernel
theorem dX8_fewest_65 : decode cX8_fewest 65 = .ok (.aload_n 0, 1) := by decide +kernel
theorem dX8_fewest_66 : decode cX8_fewest 66 = .ok (.getfield 28, 3) := by decide +kernel
theorem dX8_fewest_69 : decode cX8_fewest 69 = .ok (.iload 6, 2) := by decide +kernel
theorem dX8_fewest_71 : decode cX8_fewest 71 = .ok (.iaload, 1) := by decide +kernel
theorem dX8_fewest_72 : decode cX8_fewest 72 = .ok (.ishl, 1) := by decide +kernel
theorem dX8_fewest_73 : decode cX8_fewest 73 = .ok (.goto 4, 3) := by decide +kernel
theorem dX8_fewest_76 : decode cX8_fewest 76 = .ok (.iconst 0, 1) := by decide +kernel
theorem dX8_fewest_77 : decode cX8_fewest 77 = .ok (.ior, 1) := by decide +kernel
theorem dX8_fewest_78 : decode cX8_fewest 78 = .ok (.istore 5, 2) := by decide +kernel
theorem dX8_fewest_80 : decode cX8_fewest 80 = .ok (.iinc 6 1, 3) := by decide +kernel
theorem dX8_fewest_83 : decode cX8_fewest 83 = .ok (.goto (-38), 3) := by decide +kernel
theorem dX8_fewest_86 : decode cX8_fewest 86 = .ok (.iload_n 1, 1) := by decide +kernel
theorem dX8_fewest_87 : decode cX8_fewest 87 = .ok (.iload 5, 2) := by decide +kernel
theorem dX8_fewest_89 : decode cX8_fewest 89 = .ok (.iconst (-1), 1) := by decide +kernel
theorem dX8_fewest_90 : decode cX8_fewest 90 = .ok (.ixor, 1) := by decide +kernel
theorem dX8_fewest_91 : decode cX8_fewest 91 = .ok (.iand, 1) := by decide +kernel
theorem dX8_fewest_92 : decode cX8_fewest 92 = .ok (.ifCond .ne 20, 3) := by decide +kernel
theorem dX8_fewest_95 : decode cX8_fewest 95 = .ok (.iload 4, 2) := by decide +kernel
theorem dX8_fewest_97 : decode cX8_fewest 97 = .ok (.invokestatic 75, 3) := by decide +kernel
theorem dX8_fewest_100 : decode cX8_fewest 100 = .ok (.iload_n 3, 1) := by decide +kernel
theorem dX8_fewest_101 : decode cX8_fewest 101 = .ok (.invokestatic 75, 3) := by decide +kernel
theorem dX8_fewest_104 : decode cX8_fewest 104 = .ok (.if_icmp .ge 8, 3) := by decide +kernel
theorem dX8_fewest_107 : decode cX8_fewest 107 = .ok (.iload 4, 2) := by decide +kernel
theorem dX8_fewest_109 : decode cX8_fewest 109 = .ok (.goto 4, 3) := by decide +kernel
theorem dX8_fewest_112 : decode cX8_fewest 112 = .ok (.iload_n 3, 1) := by decide +kernel
theorem dX8_fewest_113 : decode cX8_fewest 113 = .ok (.istore_n 3, 1) := by decide +kernel
theorem dX8_fewest_114 : decode cX8_fewest 114 = .ok (.iinc 4 1, 3) := by decide +kernel
theorem dX8_fewest_117 : decode cX8_fewest 117 = .ok (.goto (-87), 3) := by decide +kernel
theorem dX8_fewest_120 : decode cX8_fewest 120 = .ok (.iload_n 2, 1) := by decide +kernel
theorem dX8_fewest_121 : decode cX8_fewest 121 = .ok (.iconst 1, 1) := by decide +kernel
theorem dX8_fewest_122 : decode cX8_fewest 122 = .ok (.if_icmp .ne 7, 3) := by decide +kernel
theorem dX8_fewest_125 : decode cX8_fewest 125 = .ok (.iload_n 3, 1) := by decide +kernel
theorem dX8_fewest_126 : decode cX8_fewest 126 = .ok (.goto 7, 3) := by decide +kernel
theorem dX8_fewest_129 : decode cX8_fewest 129 = .ok (.iload_n 3, 1) := by decide +kernel
theorem dX8_fewest_130 : decode cX8_fewest 130 = .ok (.invokestatic 75, 3) := by decide +kernel
theorem dX8_fewest_133 : decode cX8_fewest 133 = .ok (.ireturn, 1) := by decide +kernel
set_option maxRecDepth 20000 in
theorem ggX8_keep_X8_in : GoodIn wsX8_keep wsX8_in := goodIn_r _ [6] (by decide +kernel) (by decide +kernel)
set_option maxRecDepth 20000 in
theorem gX8_keep_X8_in : GoodIn wsX8_keep (va_wsS RX8 59 yX8_in wsX8_in) := goodIn_app (goodIn_of _ (by decide +kernel)) ggX8_keep_X8_in
set_option maxRecDepth 20000 in
theorem ggX8_keep_X8_asNow : GoodIn wsX8_keep wsX8_asNow := goodIn_r _ [10, 1, 11, 12, 13, 33, 34, 35, 36, 37, 38, 39, 40, 41, 42, 43, 44, 45, 46, 47, 48, 49, 50, 51, 52, 53, 54, 55, 56] (by decide +kernel) (by decide +kernel)
set_option maxRecDepth 20000 in
theorem gX8_keep_X8_asNow : GoodIn wsX8_keep (wsV RX8 110 RX8 yX8_asNow wsX8_asNow) := goodIn_app (goodIn_of _ (by decide +kernel)) ggX8_keep_X8_asNow
set_option maxRecDepth 20000 in
theorem ggX8_keep_X8_bits : GoodIn wsX8_keep wsX8_bits := goodIn_r _ [16] (by decide +kernel) (by decide +kernel)
set_option maxRecDepth 20000 in
theorem gX8_keep_X8_bits : GoodIn wsX8_keep (va_wsS RX8 75 yX8_bits wsX8_bits) := goodIn_app (goodIn_of _ (by decide +kernel)) ggX8_keep_X8_bits
set_option maxRecDepth 20000 in
theorem ggX8_keep_X8_has : GoodIn wsX8_keep wsX8_has := goodIn_r _ [19] (by decide +kernel) (by decide +kernel)
set_option maxRecDepth 20000 in
theorem gX8_keep_X8_has : GoodIn wsX8_keep (va_wsS RX8 67 yX8_has wsX8_has) := goodIn_app (goodIn_of _ (by decide +kernel)) ggX8_keep_X8_has
set_option maxRecDepth 20000 in
theorem ggX8_keep_X8_sings : GoodIn wsX8_keep wsX8_sings := goodIn_r _ [23, 1, 24, 25, 26, 5, 27, 28, 3, 4, 6, 17, 18, 19, 33, 34, 35, 36, 37, 38, 39, 40, 41, 42, 43, 44, 45, 46, 47, 48, 49, 50, 51, 52, 53, 54, 55, 56] (by decide +kernel) (by decide +kernel)
set_option maxRecDepth 20000 in
theorem gX8_keep_X8_sings : GoodIn wsX8_keep (wsV RX8 92 RX8 yX8_sings wsX8_sings) := goodIn_app (goodIn_of _ (by decide +kernel)) ggX8_keep_X8_sings
set_option maxRecDepth 20000 in
theorem ggX8_keep_X8_areHushed : GoodIn wsX8_keep wsX8_areHushed := goodIn_r _ [32, 1, 33, 34, 35, 36, 37, 38, 39, 40, 41, 42, 43, 44, 45, 46, 47, 48, 49, 50, 51, 52, 53, 54, 55, 56] (by decide +kernel) (by decide +kernel)
set_option maxRecDepth 20000 in
theorem gX8_keep_X8_areHushed : GoodIn wsX8_keep (wsV RX8 95 RX8 yX8_areHushed wsX8_areHushed) := goodIn_app (goodIn_of _ (by decide +kernel)) ggX8_keep_X8_areHushed
theorem dX8_keep_0 : decode cX8_keep 0 = .ok (.iload_n 1, 1) := by decide +kernel
theorem dX8_keep_1 : decode cX8_keep 1 = .ok (.iconst 0, 1) := by decide +kernel
theorem dX8_keep_2 : decode cX8_keep 2 = .ok (.iconst 1, 1) := by decide +kernel
theorem dX8_keep_3 : decode cX8_keep 3 = .ok (.invokestatic 59, 3) := by decide +kernel
theorem dX8_keep_6 : decode cX8_keep 6 = .ok (.ifCond .ne 6, 3) := by decide +kernel
theorem dX8_keep_9 : decode cX8_keep 9 = .ok (.bipush (-2), 2) := by decide +kernel
theorem dX8_keep_11 : decode cX8_keep 11 = .ok (.ireturn, 1) := by decide +kernel
theorem dX8_keep_12 : decode cX8_keep 12 = .ok (.aload_n 0, 1) := by decide +kernel
theorem dX8_keep_13 : decode cX8_keep 13 = .ok (.invokevirtual 110, 3) := by decide +kernel
theorem dX8_keep_16 : decode cX8_keep 16 = .ok (.iconst 0, 1) := by decide +kernel
theorem dX8_keep_17 : decode cX8_keep 17 = .ok (.istore_n 2, 1) := by decide +kernel
theorem dX8_keep_18 : decode cX8_keep 18 = .ok (.iconst 0, 1) := by decide +kernel
theorem dX8_keep_19 : decode cX8_keep 19 = .ok (.istore_n 3, 1) := by decide +kernel
theorem dX8_keep_20 : decode cX8_keep 20 = .ok (.iload_n 3, 1) := by decide +kernel
theorem dX8_keep_21 : decode cX8_keep 21 = .ok (.sipush 256, 3) := by decide +kernel
theorem dX8_keep_24 : decode cX8_keep 24 = .ok (.if_icmp .ge 178, 3) := by decide +kernel
theorem dX8_keep_27 : decode cX8_keep 27 = .ok (.iload_n 3, 1) := by decide +kernel
theorem dX8_keep_28 : decode cX8_keep 28 = .ok (.invokestatic 75, 3) := by decide +kernel
theorem dX8_keep_31 : decode cX8_keep 31 = .ok (.iload_n 2, 1) := by decide +kernel
theorem dX8_keep_32 : decode cX8_keep 32 = .ok (.invokestatic 75, 3) := by decide +kernel
theorem dX8_keep_35 : decode cX8_keep 35 = .ok (.if_icmp .le 7, 3) := by decide +kernel
theorem dX8_keep_38 : decode cX8_keep 38 = .ok (.iconst 1, 1) := by decide +kernel
theorem dX8_keep_39 : decode cX8_keep 39 = .ok (.goto 4, 3) := by decide +kernel
theorem dX8_keep_42 : decode cX8_keep 42 = .ok (.iconst 0, 1) := by decide +kernel
theorem dX8_keep_43 : decode cX8_keep 43 = .ok (.istore 4, 2) := by decide +kernel
theorem dX8_keep_45 : decode cX8_keep 45 = .ok (.iconst 0, 1) := by decide +kernel
theorem dX8_keep_46 : decode cX8_keep 46 = .ok (.istore 5, 2) := by decide +kernel
theorem dX8_keep_48 : decode cX8_keep 48 = .ok (.iload 5, 2) := by decide +kernel
theorem dX8_keep_50 : decode cX8_keep 50 = .ok (.bipush 8, 2) := by decide +kernel
theorem dX8_keep_52 : decode cX8_keep 52 = .ok (.if_icmp .ge 133, 3) := by decide +kernel
theorem dX8_keep_55 : decode cX8_keep 55 = .ok (.iload 4, 2) := by decide +kernel
theorem dX8_keep_57 : decode cX8_keep 57 = .ok (.ifCond .eq 128, 3) := by decide +kernel
theorem dX8_keep_60 : decode cX8_keep 60 = .ok (.aload_n 0, 1) := by decide +kernel
theorem dX8_keep_61 : decode cX8_keep 61 = .ok (.getfield 13, 3) := by decide +kernel
theorem dX8_keep_64 : decode cX8_keep 64 = .ok (.bipush 16, 2) := by decide +kernel
theorem dX8_keep_66 : decode cX8_keep 66 = .ok (.iload 5, 2) := by decide +kernel
theorem dX8_keep_68 : decode cX8_keep 68 = .ok (.iadd, 1) := by decide +kernel
theorem dX8_keep_69 : decode cX8_keep 69 = .ok (.iaload, 1) := by decide +kernel
theorem dX8_keep_70 : decode cX8_keep 70 = .ok (.istore 6, 2) := by decide +kernel
theorem dX8_keep_72 : decode cX8_keep 72 = .ok (.iload_n 3, 1) := by decide +kernel
theorem dX8_keep_73 : decode cX8_keep 73 = .ok (.iload 5, 2) := by decide +kernel
theorem dX8_keep_75 : decode cX8_keep 75 = .ok (.invokestatic 67, 3) := by decide +kernel
theorem dX8_keep_78 : decode cX8_keep 78 = .ok (.ifCond .eq 14, 3) := by decide +kernel
theorem dX8_keep_81 : decode cX8_keep 81 = .ok (.aload_n 0, 1) := by decide +kernel
theorem dX8_keep_82 : decode cX8_keep 82 = .ok (.iload 5, 2) := by decide +kernel
theorem dX8_keep_84 : decode cX8_keep 84 = .ok (.iload 6, 2) := by decide +kernel
theorem dX8_keep_86 : decode cX8_keep 86 = .ok (.invokevirtual 92, 3) := by decide +kernel
theorem dX8_keep_89 : decode cX8_keep 89 = .ok (.ifCond .eq 7, 3) := by decide +kernel
theorem dX8_keep_92 : decode cX8_keep 92 = .ok (.iconst 1, 1) := by decide +kernel
theorem dX8_keep_93 : decode cX8_keep 93 = .ok (.goto 4, 3) := by decide +kernel
theorem dX8_keep_96 : decode cX8_keep 96 = .ok (.iconst 0, 1) := by decide +kernel
theorem dX8_keep_97 : decode cX8_keep 97 = .ok (.istore 4, 2) := by decide +kernel
theorem dX8_keep_99 : decode cX8_keep 99 = .ok (.iconst 0, 1) := by decide +kernel
theorem dX8_keep_100 : decode cX8_keep 100 = .ok (.istore 7, 2) := by decide +kernel
theorem dX8_keep_102 : decode cX8_keep 102 = .ok (.iload 7, 2) := by decide +kernel
theorem dX8_keep_104 : decode cX8_keep 104 = .ok (.iload 5, 2) := by decide +kernel
theorem dX8_keep_106 : decode cX8_keep 106 = .ok (.if_icmp .ge 73, 3) := by decide +kernel
theorem dX8_keep_109 : decode cX8_keep 109 = .ok (.iload 4, 2) := by decide +kernel
theorem dX8_keep_111 : decode cX8_keep 111 = .ok (.ifCond .eq 68, 3) := by decide +kernel
theorem dX8_keep_114 : decode cX8_keep 114 = .ok (.iload_n 3, 1) := by decide +kernel
theorem dX8_keep_115 : decode cX8_keep 115 = .ok (.iload 5, 2) := by decide +kernel
theorem dX8_keep_117 : decode cX8_keep 117 = .ok (.invokestatic 67, 3) := by decide +kernel
theorem dX8_keep_120 : decode cX8_keep 120 = .ok (.ifCond .eq 59, 3) := by decide +kernel
theorem dX8_keep_123 : decode cX8_keep 123 = .ok (.iload_n 3, 1) := by decide +kernel
theorem dX8_keep_124 : decode cX8_keep 124 = .ok (.iload 7, 2) := by decide +kernel
theorem dX8_keep_126 : decode cX8_keep 126 = .ok (.invokestatic 67, 3) := by decide +kernel
theorem dX8_keep_129 : decode cX8_keep 129 = .ok (.ifCond .eq 37, 3) := by decide +kernel
theorem dX8_keep_132 : decode cX8_keep 132 = .ok (.aload_n 0, 1) := by decide +kernel
theorem dX8_keep_133 : decode cX8_keep 133 = .ok (.getfield 79, 3) := by decide +kernel
theorem dX8_keep_136 : decode cX8_keep 136 = .ok (.iload 6, 2) := by decide +kernel
theorem dX8_keep_138 : decode cX8_keep 138 = .ok (.invokestatic 67, 3) := by decide +kernel
theorem dX8_keep_141 : decode cX8_keep 141 = .ok (.ifCond .eq 25, 3) := by decide +kernel
theorem dX8_keep_144 : decode cX8_keep 144 = .ok (.aload_n 0, 1) := by decide +kernel
theorem dX8_keep_145 : decode cX8_keep 145 = .ok (.iload 7, 2) := by decide +kernel
theorem dX8_keep_147 : decode cX8_keep 147 = .ok (.iload 6, 2) := by decide +kernel
theorem dX8_keep_149 : decode cX8_keep 149 = .ok (.invokevirtual 92, 3) := by decide +kernel
theorem dX8_keep_152 : decode cX8_keep 152 = .ok (.ifCond .eq 14, 3) := by decide +kernel
theorem dX8_keep_155 : decode cX8_keep 155 = .ok (.aload_n 0, 1) := by decide +kernel
theorem dX8_keep_156 : decode cX8_keep 156 = .ok (.iload 5, 2) := by decide +kernel
theorem dX8_keep_158 : decode cX8_keep 158 = .ok (.iload 7, 2) := by decide +kernel
theorem dX8_keep_160 : decode cX8_keep 160 = .ok (.invokevirtual 95, 3) := by decide +kernel
theorem dX8_keep_163 : decode cX8_keep 163 = .ok (.ifCond .ne 7, 3) := by decide +kernel
theorem dX8_keep_166 : decode cX8_keep 166 = .ok (.iconst 1, 1) := by decide +kernel
theorem dX8_keep_167 : decode cX8_keep 167 = .ok (.goto 4, 3) := by decide +kernel
theorem dX8_keep_170 : decode cX8_keep 170 = .ok (.iconst 0, 1) := by decide +kernel
theorem dX8_keep_171 : decode cX8_keep 171 = .ok (.istore 4, 2) := by decide +kernel
theorem dX8_keep_173 : decode cX8_keep 173 = .ok (.iinc 7 1, 3) := by decide +kernel
theorem dX8_keep_176 : decode cX8_keep 176 = .ok (.goto (-74), 3) := by decide +kernel
theorem dX8_keep_179 : decode cX8_keep 179 = .ok (.iinc 5 1, 3) := by decide +kernel
theorem dX8_keep_182 : decode cX8_keep 182 = .ok (.goto (-134), 3) := by decide +kernel
theorem dX8_keep_185 : decode cX8_keep 185 = .ok (.iload 4, 2) := by decide +kernel
theorem dX8_keep_187 : decode cX8_keep 187 = .ok (.ifCond .eq 7, 3) := by decide +kernel
theorem dX8_keep_190 : decode cX8_keep 190 = .ok (.iload_n 3, 1) := by decide +kernel
theorem dX8_keep_191 : decode cX8_keep 191 = .ok (.goto 4, 3) := by decide +kernel
theorem dX8_keep_194 : decode cX8_keep 194 = .ok (.iload_n 2, 1) := by decide +kernel
theorem dX8_keep_195 : decode cX8_keep 195 = .ok (.istore_n 2, 1) := by decide +kernel
theorem dX8_keep_196 : decode cX8_keep 196 = .ok (.iinc 3 1, 3) := by decide +kernel
theorem dX8_keep_199 : decode cX8_keep 199 = .ok (.goto (-179), 3) := by decide +kernel
theorem dX8_keep_202 : decode cX8_keep 202 = .ok (.iload_n 1, 1) := by decide +kernel
theorem dX8_keep_203 : decode cX8_keep 203 = .ok (.iconst 1, 1) := by decide +kernel
theorem dX8_keep_204 : decode cX8_keep 204 = .ok (.if_icmp .ne 7, 3) := by decide +kernel
theorem dX8_keep_207 : decode cX8_keep 207 = .ok (.iload_n 2, 1) := by decide +kernel
theorem dX8_keep_208 : decode cX8_keep 208 = .ok (.goto 7, 3) := by decide +kernel
theorem dX8_keep_211 : decode cX8_keep 211 = .ok (.iload_n 2, 1) := by decide +kernel
theorem dX8_keep_212 : decode cX8_keep 212 = .ok (.invokestatic 75, 3) := by decide +kernel
theorem dX8_keep_215 : decode cX8_keep 215 = .ok (.ireturn, 1) := by decide +kernel
set_option maxRecDepth 20000 in
theorem ggX8_cut_X8_layFar : GoodIn wsX8_cut wsX8_layFar := goodIn_r _ [9, 3, 4, 10, 11, 12, 8, 13, 14, 15, 16, 17, 18, 19, 20, 21, 22, 23, 24, 25, 26, 27, 28, 29, 30, 31, 32, 33, 34, 35, 36, 37] (by decide +kernel) (by decide +kernel)
set_option maxRecDepth 20000 in
theorem gX8_cut_X8_layFar : GoodIn wsX8_cut (wsV RX8 145 RX8 yX8_layFar wsX8_layFar) := goodIn_app (goodIn_of _ (by decide +kernel)) ggX8_cut_X8_layFar
set_option maxRecDepth 20000 in
theorem ggX8_cut_X8_has : GoodIn wsX8_cut wsX8_has := goodIn_r _ [13] (by decide +kernel) (by decide +kernel)
set_option maxRecDepth 20000 in
theorem gX8_cut_X8_has : GoodIn wsX8_cut (va_wsS RX8 67 yX8_has wsX8_has) := goodIn_app (goodIn_of _ (by decide +kernel)) ggX8_cut_X8_has
theorem dX8_cut_0 : decode cX8_cut 0 = .ok (.aload_n 0, 1) := by decide +kernel
theorem dX8_cut_1 : decode cX8_cut 1 = .ok (.iconst 0, 1) := by decide +kernel
theorem dX8_cut_2 : decode cX8_cut 2 = .ok (.sipush 1023, 3) := by decide +kernel
theorem dX8_cut_5 : decode cX8_cut 5 = .ok (.aload_n 0, 1) := by decide +kernel
theorem dX8_cut_6 : decode cX8_cut 6 = .ok (.getfield 7, 3) := by decide +kernel
theorem dX8_cut_9 : decode cX8_cut 9 = .ok (.bipush 34, 2) := by decide +kernel
theorem dX8_cut_11 : decode cX8_cut 11 = .ok (.iaload, 1) := by decide +kernel
theorem dX8_cut_12 : decode cX8_cut 12 = .ok (.iconst (-1), 1) := by decide +kernel
theorem dX8_cut_13 : decode cX8_cut 13 = .ok (.ixor, 1) := by decide +kernel
theorem dX8_cut_14 : decode cX8_cut 14 = .ok (.iand, 1) := by decide +kernel
theorem dX8_cut_15 : decode cX8_cut 15 = .ok (.invokevirtual 145, 3) := by decide +kernel
theorem dX8_cut_18 : decode cX8_cut 18 = .ok (.iconst 0, 1) := by decide +kernel
theorem dX8_cut_19 : decode cX8_cut 19 = .ok (.istore_n 1, 1) := by decide +kernel
theorem dX8_cut_20 : decode cX8_cut 20 = .ok (.iconst 0, 1) := by decide +kernel
theorem dX8_cut_21 : decode cX8_cut 21 = .ok (.istore_n 2, 1) := by decide +kernel
theorem dX8_cut_22 : decode cX8_cut 22 = .ok (.iload_n 2, 1) := by decide +kernel
theorem dX8_cut_23 : decode cX8_cut 23 = .ok (.bipush 8, 2) := by decide +kernel
theorem dX8_cut_25 : decode cX8_cut 25 = .ok (.if_icmp .ge 49, 3) := by decide +kernel
theorem dX8_cut_28 : decode cX8_cut 28 = .ok (.iload_n 1, 1) := by decide +kernel
theorem dX8_cut_29 : decode cX8_cut 29 = .ok (.aload_n 0, 1) := by decide +kernel
theorem dX8_cut_30 : decode cX8_cut 30 = .ok (.getfield 63, 3) := by decide +kernel
theorem dX8_cut_33 : decode cX8_cut 33 = .ok (.iload_n 2, 1) := by decide +kernel
theorem dX8_cut_34 : decode cX8_cut 34 = .ok (.invokestatic 67, 3) := by decide +kernel
theorem dX8_cut_37 : decode cX8_cut 37 = .ok (.ifCond .eq 28, 3) := by decide +kernel
theorem dX8_cut_40 : decode cX8_cut 40 = .ok (.aload_n 0, 1) := by decide +kernel
theorem dX8_cut_41 : decode cX8_cut 41 = .ok (.getfield 40, 3) := by decide +kernel
theorem dX8_cut_44 : decode cX8_cut 44 = .ok (.aload_n 0, 1) := by decide +kernel
theorem dX8_cut_45 : decode cX8_cut 45 = .ok (.getfield 7, 3) := by decide +kernel
theorem dX8_cut_48 : decode cX8_cut 48 = .ok (.bipush 16, 2) := by decide +kernel
theorem dX8_cut_50 : decode cX8_cut 50 = .ok (.iload_n 2, 1) := by decide +kernel
theorem dX8_cut_51 : decode cX8_cut 51 = .ok (.iadd, 1) := by decide +kernel
theorem dX8_cut_52 : decode cX8_cut 52 = .ok (.iaload, 1) := by decide +kernel
theorem dX8_cut_53 : decode cX8_cut 53 = .ok (.iaload, 1) := by decide +kernel
theorem dX8_cut_54 : decode cX8_cut 54 = .ok (.ldc 144, 2) := by decide +kernel
theorem dX8_cut_56 : decode cX8_cut 56 = .ok (.if_icmp .lt 9, 3) := by decide +kernel
theorem dX8_cut_59 : decode cX8_cut 59 = .ok (.iconst 1, 1) := by decide +kernel
theorem dX8_cut_60 : decode cX8_cut 60 = .ok (.iload_n 2, 1) := by decide +kernel
theorem dX8_cut_61 : decode cX8_cut 61 = .ok (.ishl, 1) := by decide +kernel
theorem dX8_cut_62 : decode cX8_cut 62 = .ok (.goto 4, 3) := by decide +kernel
theorem dX8_cut_65 : decode cX8_cut 65 = .ok (.iconst 0, 1) := by decide +kernel
theorem dX8_cut_66 : decode cX8_cut 66 = .ok (.ior, 1) := by decide +kernel
theorem dX8_cut_67 : decode cX8_cut 67 = .ok (.istore_n 1, 1) := by decide +kernel
theorem dX8_cut_68 : decode cX8_cut 68 = .ok (.iinc 2 1, 3) := by decide +kernel
theorem dX8_cut_71 : decode cX8_cut 71 = .ok (.goto (-49), 3) := by decide +kernel
theorem dX8_cut_74 : decode cX8_cut 74 = .ok (.iload_n 1, 1) := by decide +kernel
theorem dX8_cut_75 : decode cX8_cut 75 = .ok (.ireturn, 1) := by decide +kernel
theorem dX8_digit_0 : decode cX8_digit 0 = .ok (.iload_n 1, 1) := by decide +kernel
theorem dX8_digit_1 : decode cX8_digit 1 = .ok (.ifCond .ne 10, 3) := by decide +kernel
theorem dX8_digit_4 : decode cX8_digit 4 = .ok (.iload_n 0, 1) := by decide +kernel
theorem dX8_digit_5 : decode cX8_digit 5 = .ok (.bipush 100, 2) := by decide +kernel
theorem dX8_digit_7 : decode cX8_digit 7 = .ok (.idiv, 1) := by decide +kernel
theorem dX8_digit_8 : decode cX8_digit 8 = .ok (.goto 22, 3) := by decide +kernel
theorem dX8_digit_11 : decode cX8_digit 11 = .ok (.iload_n 1, 1) := by decide +kernel
theorem dX8_digit_12 : decode cX8_digit 12 = .ok (.iconst 1, 1) := by decide +kernel
theorem dX8_digit_13 : decode cX8_digit 13 = .ok (.if_icmp .ne 13, 3) := by decide +kernel
theorem dX8_digit_16 : decode cX8_digit 16 = .ok (.iload_n 0, 1) := by decide +kernel
theorem dX8_digit_17 : decode cX8_digit 17 = .ok (.bipush 10, 2) := by decide +kernel
theorem dX8_digit_19 : decode cX8_digit 19 = .ok (.idiv, 1) := by decide +kernel
theorem dX8_digit_20 : decode cX8_digit 20 = .ok (.bipush 10, 2) := by decide +kernel
theorem dX8_digit_22 : decode cX8_digit 22 = .ok (.irem, 1) := by decide +kernel
theorem dX8_digit_23 : decode cX8_digit 23 = .ok (.goto 7, 3) := by decide +kernel
theorem dX8_digit_26 : decode cX8_digit 26 = .ok (.iload_n 0, 1) := by decide +kernel
theorem dX8_digit_27 : decode cX8_digit 27 = .ok (.bipush 10, 2) := by decide +kernel
theorem dX8_digit_29 : decode cX8_digit 29 = .ok (.irem, 1) := by decide +kernel
theorem dX8_digit_30 : decode cX8_digit 30 = .ok (.ireturn, 1) := by decide +kernel
set_option maxRecDepth 20000 in
theorem ggX8_rested_X8_digit : GoodIn wsX8_rested wsX8_digit := goodIn_r _ [4] (by decide +kernel) (by decide +kernel)
set_option maxRecDepth 20000 in
theorem gX8_rested_X8_digit : GoodIn wsX8_rested (va_wsS RX8 149 yX8_digit wsX8_digit) := goodIn_app (goodIn_of _ (by decide +kernel)) ggX8_rested_X8_digit
theorem dX8_rested_0 : decode cX8_rested 0 = .ok (.iconst 0, 1) := by decide +kernel
theorem dX8_rested_1 : decode cX8_rested 1 = .ok (.istore 4, 2) := by decide +kernel
theorem dX8_rested_3 : decode cX8_rested 3 = .ok (.iconst 0, 1) := by decide +kernel
theorem dX8_rested_4 : decode cX8_rested 4 = .ok (.istore 5, 2) := by decide +kernel
theorem dX8_rested_6 : decode cX8_rested 6 = .ok (.iload 5, 2) := by decide +kernel
theorem dX8_rested_8 : decode cX8_rested 8 = .ok (.iconst 3, 1) := by decide +kernel
theorem dX8_rested_9 : decode cX8_rested 9 = .ok (.if_icmp .ge 48, 3) := by decide +kernel
theorem dX8_rested_12 : decode cX8_rested 12 = .ok (.iload_n 0, 1) := by decide +kernel
theorem dX8_rested_13 : decode cX8_rested 13 = .ok (.iload 5, 2) := by decide +kernel
theorem dX8_rested_15 : decode cX8_rested 15 = .ok (.invokestatic 149, 3) := by decide +kernel
theorem dX8_rested_18 : decode cX8_rested 18 = .ok (.iload_n 2, 1) := by decide +kernel
theorem dX8_rested_19 : decode cX8_rested 19 = .ok (.isub, 1) := by decide +kernel
theorem dX8_rested_20 : decode cX8_rested 20 = .ok (.istore 6, 2) := by decide +kernel
theorem dX8_rested_22 : decode cX8_rested 22 = .ok (.bipush 10, 2) := by decide +kernel
theorem dX8_rested_24 : decode cX8_rested 24 = .ok (.iload 4, 2) := by decide +kernel
theorem dX8_rested_26 : decode cX8_rested 26 = .ok (.imul, 1) := by decide +kernel
theorem dX8_rested_27 : decode cX8_rested 27 = .ok (.iload 5, 2) := by decide +kernel
theorem dX8_rested_29 : decode cX8_rested 29 = .ok (.iload_n 1, 1) := by decide +kernel
theorem dX8_rested_30 : decode cX8_rested 30 = .ok (.if_icmp .ne 7, 3) := by decide +kernel
theorem dX8_rested_33 : decode cX8_rested 33 = .ok (.iload_n 3, 1) := by decide +kernel
theorem dX8_rested_34 : decode cX8_rested 34 = .ok (.goto 14, 3) := by decide +kernel
theorem dX8_rested_37 : decode cX8_rested 37 = .ok (.iload 6, 2) := by decide +kernel
theorem dX8_rested_39 : decode cX8_rested 39 = .ok (.ifCond .le 8, 3) := by decide +kernel
theorem dX8_rested_42 : decode cX8_rested 42 = .ok (.iload 6, 2) := by decide +kernel
theorem dX8_rested_44 : decode cX8_rested 44 = .ok (.goto 4, 3) := by decide +kernel
theorem dX8_rested_47 : decode cX8_rested 47 = .ok (.iconst 0, 1) := by decide +kernel
theorem dX8_rested_48 : decode cX8_rested 48 = .ok (.iadd, 1) := by decide +kernel
theorem dX8_rested_49 : decode cX8_rested 49 = .ok (.istore 4, 2) := by decide +kernel
theorem dX8_rested_51 : decode cX8_rested 51 = .ok (.iinc 5 1, 3) := by decide +kernel
theorem dX8_rested_54 : decode cX8_rested 54 = .ok (.goto (-48), 3) := by decide +kernel
theorem dX8_rested_57 : decode cX8_rested 57 = .ok (.iload 4, 2) := by decide +kernel
theorem dX8_rested_59 : decode cX8_rested 59 = .ok (.ireturn, 1) := by decide +kernel
set_option maxRecDepth 20000 in
theorem ggX8_heldBy_X8_digit : GoodIn wsX8_heldBy wsX8_digit := goodIn_r _ [5] (by decide +kernel) (by decide +kernel)
set_option maxRecDepth 20000 in
theorem gX8_heldBy_X8_digit : GoodIn wsX8_heldBy (va_wsS RX8 149 yX8_digit wsX8_digit) := goodIn_app (goodIn_of _ (by decide +kernel)) ggX8_heldBy_X8_digit
set_option maxRecDepth 20000 in
theorem ggX8_heldBy_X8_rested : GoodIn wsX8_heldBy wsX8_rested := goodIn_r _ [8, 2, 3, 4, 5] (by decide +kernel) (by decide +kernel)
set_option maxRecDepth 20000 in
theorem gX8_heldBy_X8_rested : GoodIn wsX8_heldBy (va_wsS RX8 152 yX8_rested wsX8_rested) := goodIn_app (goodIn_of _ (by decide +kernel)) ggX8_heldBy_X8_rested
theorem dX8_heldBy_0 : decode cX8_heldBy 0 = .ok (.iconst 0, 1) := by decide +kernel
theorem dX8_heldBy_1 : decode cX8_heldBy 1 = .ok (.istore 4, 2) := by decide +kernel
theorem dX8_heldBy_3 : decode cX8_heldBy 3 = .ok (.iload 4, 2) := by decide +kernel
theorem dX8_heldBy_5 : decode cX8_heldBy 5 = .ok (.sipush 10000, 3) := by decide +kernel
theorem dX8_heldBy_8 : decode cX8_heldBy 8 = .ok (.if_icmp .ge 17, 3) := by decide +kernel
theorem dX8_heldBy_11 : decode cX8_heldBy 11 = .ok (.aload_n 0, 1) := by decide +kernel
theorem dX8_heldBy_12 : decode cX8_heldBy 12 = .ok (.getfield 43, 3) := by decide +kernel
theorem dX8_heldBy_15 : decode cX8_heldBy 15 = .ok (.iload 4, 2) := by decide +kernel
theorem dX8_heldBy_17 : decode cX8_heldBy 17 = .ok (.iconst 0, 1) := by decide +kernel
theorem dX8_heldBy_18 : decode cX8_heldBy 18 = .ok (.bastore, 1) := by decide +kernel
theorem dX8_heldBy_19 : decode cX8_heldBy 19 = .ok (.iinc 4 1, 3) := by decide +kernel
theorem dX8_heldBy_22 : decode cX8_heldBy 22 = .ok (.goto (-19), 3) := by decide +kernel
theorem dX8_heldBy_25 : decode cX8_heldBy 25 = .ok (.iload_n 2, 1) := by decide +kernel
theorem dX8_heldBy_26 : decode cX8_heldBy 26 = .ok (.iload_n 1, 1) := by decide +kernel
theorem dX8_heldBy_27 : decode cX8_heldBy 27 = .ok (.invokestatic 149, 3) := by decide +kernel
theorem dX8_heldBy_30 : decode cX8_heldBy 30 = .ok (.istore 4, 2) := by decide +kernel
theorem dX8_heldBy_32 : decode cX8_heldBy 32 = .ok (.aload_n 0, 1) := by decide +kernel
theorem dX8_heldBy_33 : decode cX8_heldBy 33 = .ok (.getfield 43, 3) := by decide +kernel
theorem dX8_heldBy_36 : decode cX8_heldBy 36 = .ok (.sipush 1000, 3) := by decide +kernel
theorem dX8_heldBy_39 : decode cX8_heldBy 39 = .ok (.iload 4, 2) := by decide +kernel
theorem dX8_heldBy_41 : decode cX8_heldBy 41 = .ok (.imul, 1) := by decide +kernel
theorem dX8_heldBy_42 : decode cX8_heldBy 42 = .ok (.iconst 0, 1) := by decide +kernel
theorem dX8_heldBy_43 : decode cX8_heldBy 43 = .ok (.iload_n 1, 1) := by decide +kernel
theorem dX8_heldBy_44 : decode cX8_heldBy 44 = .ok (.iload 4, 2) := by decide +kernel
theorem dX8_heldBy_46 : decode cX8_heldBy 46 = .ok (.iload_n 3, 1) := by decide +kernel
theorem dX8_heldBy_47 : decode cX8_heldBy 47 = .ok (.iload_n 1, 1) := by decide +kernel
theorem dX8_heldBy_48 : decode cX8_heldBy 48 = .ok (.invokestatic 149, 3) := by decide +kernel
theorem dX8_heldBy_51 : decode cX8_heldBy 51 = .ok (.invokestatic 152, 3) := by decide +kernel
theorem dX8_heldBy_54 : decode cX8_heldBy 54 = .ok (.iadd, 1) := by decide +kernel
theorem dX8_heldBy_55 : decode cX8_heldBy 55 = .ok (.iconst 1, 1) := by decide +kernel
theorem dX8_heldBy_56 : decode cX8_heldBy 56 = .ok (.bastore, 1) := by decide +kernel
theorem dX8_heldBy_57 : decode cX8_heldBy 57 = .ok (.iconst 1, 1) := by decide +kernel
theorem dX8_heldBy_58 : decode cX8_heldBy 58 = .ok (.istore 5, 2) := by decide +kernel
theorem dX8_heldBy_60 : decode cX8_heldBy 60 = .ok (.iload 5, 2) := by decide +kernel
theorem dX8_heldBy_62 : decode cX8_heldBy 62 = .ok (.bipush 99, 2) := by decide +kernel
theorem dX8_heldBy_64 : decode cX8_heldBy 64 = .ok (.if_icmp .ge 169, 3) := by decide +kernel
theorem dX8_heldBy_67 : decode cX8_heldBy 67 = .ok (.iconst 0, 1) := by decide +kernel
theorem dX8_heldBy_68 : decode cX8_heldBy 68 = .ok (.istore 6, 2) := by decide +kernel
theorem dX8_heldBy_70 : decode cX8_heldBy 70 = .ok (.iload 6, 2) := by decide +kernel
theorem dX8_heldBy_72 : decode cX8_heldBy 72 = .ok (.sipush 1000, 3) := by decide +kernel
theorem dX8_heldBy_75 : decode cX8_heldBy 75 = .ok (.if_icmp .ge 152, 3) := by decide +kernel
theorem dX8_heldBy_78 : decode cX8_heldBy 78 = .ok (.iconst 0, 1) := by decide +kernel
theorem dX8_heldBy_79 : decode cX8_heldBy 79 = .ok (.istore 7, 2) := by decide +kernel
theorem dX8_heldBy_81 : decode cX8_heldBy 81 = .ok (.iload 7, 2) := by decide +kernel
theorem dX8_heldBy_83 : decode cX8_heldBy 83 = .ok (.iconst 3, 1) := by decide +kernel
theorem dX8_heldBy_84 : decode cX8_heldBy 84 = .ok (.if_icmp .ge 119, 3) := by decide +kernel
theorem dX8_heldBy_87 : decode cX8_heldBy 87 = .ok (.aload_n 0, 1) := by decide +kernel
theorem dX8_heldBy_88 : decode cX8_heldBy 88 = .ok (.getfield 43, 3) := by decide +kernel
theorem dX8_heldBy_91 : decode cX8_heldBy 91 = .ok (.sipush 1000, 3) := by decide +kernel
theorem dX8_heldBy_94 : decode cX8_heldBy 94 = .ok (.iload 5, 2) := by decide +kernel
theorem dX8_heldBy_96 : decode cX8_heldBy 96 = .ok (.bipush 10, 2) := by decide +kernel
theorem dX8_heldBy_98 : decode cX8_heldBy 98 = .ok (.irem, 1) := by decide +kernel
theorem dX8_heldBy_99 : decode cX8_heldBy 99 = .ok (.imul, 1) := by decide +kernel
theorem dX8_heldBy_100 : decode cX8_heldBy 100 = .ok (.iload 6, 2) := by decide +kernel
theorem dX8_heldBy_102 : decode cX8_heldBy 102 = .ok (.iadd, 1) := by decide +kernel
theorem dX8_heldBy_103 : decode cX8_heldBy 103 = .ok (.baload, 1) := by decide +kernel
theorem dX8_heldBy_104 : decode cX8_heldBy 104 = .ok (.ifCond .eq 99, 3) := by decide +kernel
theorem dX8_heldBy_107 : decode cX8_heldBy 107 = .ok (.iload 6, 2) := by decide +kernel
theorem dX8_heldBy_109 : decode cX8_heldBy 109 = .ok (.iload 7, 2) := by decide +kernel
theorem dX8_heldBy_111 : decode cX8_heldBy 111 = .ok (.invokestatic 149, 3) := by decide +kernel
theorem dX8_heldBy_114 : decode cX8_heldBy 114 = .ok (.ifCond .ne 83, 3) := by decide +kernel
theorem dX8_heldBy_117 : decode cX8_heldBy 117 = .ok (.iload_n 2, 1) := by decide +kernel
theorem dX8_heldBy_118 : decode cX8_heldBy 118 = .ok (.iload 7, 2) := by decide +kernel
theorem dX8_heldBy_120 : decode cX8_heldBy 120 = .ok (.invokestatic 149, 3) := by decide +kernel
theorem dX8_heldBy_123 : decode cX8_heldBy 123 = .ok (.istore 8, 2) := by decide +kernel
theorem dX8_heldBy_125 : decode cX8_heldBy 125 = .ok (.iload 5, 2) := by decide +kernel
theorem dX8_heldBy_127 : decode cX8_heldBy 127 = .ok (.iload 8, 2) := by decide +kernel
theorem dX8_heldBy_129 : decode cX8_heldBy 129 = .ok (.iadd, 1) := by decide +kernel
theorem dX8_heldBy_130 : decode cX8_heldBy 130 = .ok (.bipush 99, 2) := by decide +kernel
theorem dX8_heldBy_132 : decode cX8_heldBy 132 = .ok (.if_icmp .le 8, 3) := by decide +kernel
theorem dX8_heldBy_135 : decode cX8_heldBy 135 = .ok (.bipush 99, 2) := by decide +kernel
theorem dX8_heldBy_137 : decode cX8_heldBy 137 = .ok (.goto 8, 3) := by decide +kernel
theorem dX8_heldBy_140 : decode cX8_heldBy 140 = .ok (.iload 5, 2) := by decide +kernel
theorem dX8_heldBy_142 : decode cX8_heldBy 142 = .ok (.iload 8, 2) := by decide +kernel
theorem dX8_heldBy_144 : decode cX8_heldBy 144 = .ok (.iadd, 1) := by decide +kernel
theorem dX8_heldBy_145 : decode cX8_heldBy 145 = .ok (.istore 9, 2) := by decide +kernel
theorem dX8_heldBy_147 : decode cX8_heldBy 147 = .ok (.aload_n 0, 1) := by decide +kernel
theorem dX8_heldBy_148 : decode cX8_heldBy 148 = .ok (.getfield 43, 3) := by decide +kernel
theorem dX8_heldBy_151 : decode cX8_heldBy 151 = .ok (.sipush 1000, 3) := by decide +kernel
theorem dX8_heldBy_154 : decode cX8_heldBy 154 = .ok (.iload 5, 2) := by decide +kernel
theorem dX8_heldBy_156 : decode cX8_heldBy 156 = .ok (.iload 8, 2) := by decide +kernel
theorem dX8_heldBy_158 : decode cX8_heldBy 158 = .ok (.iadd, 1) := by decide +kernel
theorem dX8_heldBy_159 : decode cX8_heldBy 159 = .ok (.bipush 10, 2) := by decide +kernel
theorem dX8_heldBy_161 : decode cX8_heldBy 161 = .ok (.irem, 1) := by decide +kernel
theorem dX8_heldBy_162 : decode cX8_heldBy 162 = .ok (.imul, 1) := by decide +kernel
theorem dX8_heldBy_163 : decode cX8_heldBy 163 = .ok (.iload 6, 2) := by decide +kernel
theorem dX8_heldBy_165 : decode cX8_heldBy 165 = .ok (.iload 7, 2) := by decide +kernel
theorem dX8_heldBy_167 : decode cX8_heldBy 167 = .ok (.iload 8, 2) := by decide +kernel
theorem dX8_heldBy_169 : decode cX8_heldBy 169 = .ok (.iload_n 3, 1) := by decide +kernel
theorem dX8_heldBy_170 : decode cX8_heldBy 170 = .ok (.iload 7, 2) := by decide +kernel
theorem dX8_heldBy_172 : decode cX8_heldBy 172 = .ok (.invokestatic 149, 3) := by decide +kernel
theorem dX8_heldBy_175 : decode cX8_heldBy 175 = .ok (.invokestatic 152, 3) := by decide +kernel
theorem dX8_heldBy_178 : decode cX8_heldBy 178 = .ok (.iadd, 1) := by decide +kernel
theorem dX8_heldBy_179 : decode cX8_heldBy 179 = .ok (.iconst 1, 1) := by decide +kernel
theorem dX8_heldBy_180 : decode cX8_heldBy 180 = .ok (.bastore, 1) := by decide +kernel
theorem dX8_heldBy_181 : decode cX8_heldBy 181 = .ok (.iload 9, 2) := by decide +kernel
theorem dX8_heldBy_183 : decode cX8_heldBy 183 = .ok (.iload 4, 2) := by decide +kernel
theorem dX8_heldBy_185 : decode cX8_heldBy 185 = .ok (.if_icmp .le 8, 3) := by decide +kernel
theorem dX8_heldBy_188 : decode cX8_heldBy 188 = .ok (.iload 9, 2) := by decide +kernel
theorem dX8_heldBy_190 : decode cX8_heldBy 190 = .ok (.goto 5, 3) := by decide +kernel
theorem dX8_heldBy_193 : decode cX8_heldBy 193 = .ok (.iload 4, 2) := by decide +kernel
theorem dX8_heldBy_195 : decode cX8_heldBy 195 = .ok (.istore 4, 2) := by decide +kernel
theorem dX8_heldBy_197 : decode cX8_heldBy 197 = .ok (.iinc 7 1, 3) := by decide +kernel
theorem dX8_heldBy_200 : decode cX8_heldBy 200 = .ok (.goto (-119), 3) := by decide +kernel
theorem dX8_heldBy_203 : decode cX8_heldBy 203 = .ok (.aload_n 0, 1) := by decide +kernel
theorem dX8_heldBy_204 : decode cX8_heldBy 204 = .ok (.getfield 43, 3) := by decide +kernel
theorem dX8_heldBy_207 : decode cX8_heldBy 207 = .ok (.sipush 1000, 3) := by decide +kernel
theorem dX8_heldBy_210 : decode cX8_heldBy 210 = .ok (.iload 5, 2) := by decide +kernel
theorem dX8_heldBy_212 : decode cX8_heldBy 212 = .ok (.bipush 10, 2) := by decide +kernel
theorem dX8_heldBy_214 : decode cX8_heldBy 214 = .ok (.irem, 1) := by decide +kernel
theorem dX8_heldBy_215 : decode cX8_heldBy 215 = .ok (.imul, 1) := by decide +kernel
theorem dX8_heldBy_216 : decode cX8_heldBy 216 = .ok (.iload 6, 2) := by decide +kernel
theorem dX8_heldBy_218 : decode cX8_heldBy 218 = .ok (.iadd, 1) := by decide +kernel
theorem dX8_heldBy_219 : decode cX8_heldBy 219 = .ok (.iconst 0, 1) := by decide +kernel
theorem dX8_heldBy_220 : decode cX8_heldBy 220 = .ok (.bastore, 1) := by decide +kernel
theorem dX8_heldBy_221 : decode cX8_heldBy 221 = .ok (.iinc 6 1, 3) := by decide +kernel
theorem dX8_heldBy_224 : decode cX8_heldBy 224 = .ok (.goto (-154), 3) := by decide +kernel
theorem dX8_heldBy_227 : decode cX8_heldBy 227 = .ok (.iinc 5 1, 3) := by decide +kernel
theorem dX8_heldBy_230 : decode cX8_heldBy 230 = .ok (.goto (-170), 3) := by decide +kernel
theorem dX8_heldBy_233 : decode cX8_heldBy 233 = .ok (.iload 4, 2) := by decide +kernel
theorem dX8_heldBy_235 : decode cX8_heldBy 235 = .ok (.ireturn, 1) := by decide +kernel
set_option maxRecDepth 20000 in
theorem ggX8_hold_X8_in : GoodIn wsX8_hold wsX8_in := goodIn_r _ [4] (by decide +kernel) (by decide +kernel)
set_option maxRecDepth 20000 in
theorem gX8_hold_X8_in : GoodIn wsX8_hold (va_wsS RX8 59 yX8_in wsX8_in) := goodIn_app (goodIn_of _ (by decide +kernel)) ggX8_hold_X8_in
set_option maxRecDepth 20000 in
theorem ggX8_hold_X8_heldBy : GoodIn wsX8_hold wsX8_heldBy := goodIn_r _ [8, 9, 10, 11, 3, 12, 13, 14, 15, 16, 17, 18, 19, 20, 21, 22, 23, 24, 25, 26, 27, 28, 29, 30, 31, 32, 33, 34, 35, 36, 37, 38, 39] (by decide +kernel) (by decide +kernel)
set_option maxRecDepth 20000 in
theorem gX8_hold_X8_heldBy : GoodIn wsX8_hold (wsV RX8 156 RX8 yX8_heldBy wsX8_heldBy) := goodIn_app (goodIn_of _ (by decide +kernel)) ggX8_hold_X8_heldBy
theorem dX8_hold_0 : decode cX8_hold 0 = .ok (.iload_n 1, 1) := by decide +kernel
theorem dX8_hold_1 : decode cX8_hold 1 = .ok (.bipush 111, 2) := by decide +kernel
theorem dX8_hold_3 : decode cX8_hold 3 = .ok (.sipush 999, 3) := by decide +kernel
theorem dX8_hold_6 : decode cX8_hold 6 = .ok (.invokestatic 59, 3) := by decide +kernel
theorem dX8_hold_9 : decode cX8_hold 9 = .ok (.ifCond .eq 40, 3) := by decide +kernel
theorem dX8_hold_12 : decode cX8_hold 12 = .ok (.iload_n 1, 1) := by decide +kernel
theorem dX8_hold_13 : decode cX8_hold 13 = .ok (.bipush 10, 2) := by decide +kernel
theorem dX8_hold_15 : decode cX8_hold 15 = .ok (.irem, 1) := by decide +kernel
theorem dX8_hold_16 : decode cX8_hold 16 = .ok (.ifCond .eq 33, 3) := by decide +kernel
theorem dX8_hold_19 : decode cX8_hold 19 = .ok (.iload_n 1, 1) := by decide +kernel
theorem dX8_hold_20 : decode cX8_hold 20 = .ok (.bipush 10, 2) := by decide +kernel
theorem dX8_hold_22 : decode cX8_hold 22 = .ok (.idiv, 1) := by decide +kernel
theorem dX8_hold_23 : decode cX8_hold 23 = .ok (.bipush 10, 2) := by decide +kernel
theorem dX8_hold_25 : decode cX8_hold 25 = .ok (.irem, 1) := by decide +kernel
theorem dX8_hold_26 : decode cX8_hold 26 = .ok (.ifCond .eq 23, 3) := by decide +kernel
theorem dX8_hold_29 : decode cX8_hold 29 = .ok (.iload_n 2, 1) := by decide +kernel
theorem dX8_hold_30 : decode cX8_hold 30 = .ok (.iconst 0, 1) := by decide +kernel
theorem dX8_hold_31 : decode cX8_hold 31 = .ok (.sipush 999, 3) := by decide +kernel
theorem dX8_hold_34 : decode cX8_hold 34 = .ok (.invokestatic 59, 3) := by decide +kernel
theorem dX8_hold_37 : decode cX8_hold 37 = .ok (.ifCond .eq 12, 3) := by decide +kernel
theorem dX8_hold_40 : decode cX8_hold 40 = .ok (.iload_n 3, 1) := by decide +kernel
theorem dX8_hold_41 : decode cX8_hold 41 = .ok (.iconst 0, 1) := by decide +kernel
theorem dX8_hold_42 : decode cX8_hold 42 = .ok (.iconst 1, 1) := by decide +kernel
theorem dX8_hold_43 : decode cX8_hold 43 = .ok (.invokestatic 59, 3) := by decide +kernel
theorem dX8_hold_46 : decode cX8_hold 46 = .ok (.ifCond .ne 6, 3) := by decide +kernel
theorem dX8_hold_49 : decode cX8_hold 49 = .ok (.bipush (-2), 2) := by decide +kernel
theorem dX8_hold_51 : decode cX8_hold 51 = .ok (.ireturn, 1) := by decide +kernel
theorem dX8_hold_52 : decode cX8_hold 52 = .ok (.iconst 0, 1) := by decide +kernel
theorem dX8_hold_53 : decode cX8_hold 53 = .ok (.istore 4, 2) := by decide +kernel
theorem dX8_hold_55 : decode cX8_hold 55 = .ok (.iconst 0, 1) := by decide +kernel
theorem dX8_hold_56 : decode cX8_hold 56 = .ok (.istore 5, 2) := by decide +kernel
theorem dX8_hold_58 : decode cX8_hold 58 = .ok (.iconst 0, 1) := by decide +kernel
theorem dX8_hold_59 : decode cX8_hold 59 = .ok (.istore 6, 2) := by decide +kernel
theorem dX8_hold_61 : decode cX8_hold 61 = .ok (.iload 6, 2) := by decide +kernel
theorem dX8_hold_63 : decode cX8_hold 63 = .ok (.iconst 3, 1) := by decide +kernel
theorem dX8_hold_64 : decode cX8_hold 64 = .ok (.if_icmp .ge 51, 3) := by decide +kernel
theorem dX8_hold_67 : decode cX8_hold 67 = .ok (.aload_n 0, 1) := by decide +kernel
theorem dX8_hold_68 : decode cX8_hold 68 = .ok (.iload 6, 2) := by decide +kernel
theorem dX8_hold_70 : decode cX8_hold 70 = .ok (.iload_n 1, 1) := by decide +kernel
theorem dX8_hold_71 : decode cX8_hold 71 = .ok (.iload_n 2, 1) := by decide +kernel
theorem dX8_hold_72 : decode cX8_hold 72 = .ok (.invokevirtual 156, 3) := by decide +kernel
theorem dX8_hold_75 : decode cX8_hold 75 = .ok (.istore 7, 2) := by decide +kernel
theorem dX8_hold_77 : decode cX8_hold 77 = .ok (.iload 7, 2) := by decide +kernel
theorem dX8_hold_79 : decode cX8_hold 79 = .ok (.iload 4, 2) := by decide +kernel
theorem dX8_hold_81 : decode cX8_hold 81 = .ok (.if_icmp .le 8, 3) := by decide +kernel
theorem dX8_hold_84 : decode cX8_hold 84 = .ok (.iload 6, 2) := by decide +kernel
theorem dX8_hold_86 : decode cX8_hold 86 = .ok (.goto 5, 3) := by decide +kernel
theorem dX8_hold_89 : decode cX8_hold 89 = .ok (.iload 5, 2) := by decide +kernel
theorem dX8_hold_91 : decode cX8_hold 91 = .ok (.istore 5, 2) := by decide +kernel
theorem dX8_hold_93 : decode cX8_hold 93 = .ok (.iload 7, 2) := by decide +kernel
theorem dX8_hold_95 : decode cX8_hold 95 = .ok (.iload 4, 2) := by decide +kernel
theorem dX8_hold_97 : decode cX8_hold 97 = .ok (.if_icmp .le 8, 3) := by decide +kernel
theorem dX8_hold_100 : decode cX8_hold 100 = .ok (.iload 7, 2) := by decide +kernel
theorem dX8_hold_102 : decode cX8_hold 102 = .ok (.goto 5, 3) := by decide +kernel
theorem dX8_hold_105 : decode cX8_hold 105 = .ok (.iload 4, 2) := by decide +kernel
theorem dX8_hold_107 : decode cX8_hold 107 = .ok (.istore 4, 2) := by decide +kernel
theorem dX8_hold_109 : decode cX8_hold 109 = .ok (.iinc 6 1, 3) := by decide +kernel
theorem dX8_hold_112 : decode cX8_hold 112 = .ok (.goto (-51), 3) := by decide +kernel
theorem dX8_hold_115 : decode cX8_hold 115 = .ok (.iload_n 3, 1) := by decide +kernel
theorem dX8_hold_116 : decode cX8_hold 116 = .ok (.ifCond .ne 8, 3) := by decide +kernel
theorem dX8_hold_119 : decode cX8_hold 119 = .ok (.iload 4, 2) := by decide +kernel
theorem dX8_hold_121 : decode cX8_hold 121 = .ok (.goto 5, 3) := by decide +kernel
theorem dX8_hold_124 : decode cX8_hold 124 = .ok (.iload 5, 2) := by decide +kernel
theorem dX8_hold_126 : decode cX8_hold 126 = .ok (.ireturn, 1) := by decide +kernel
set_option maxRecDepth 20000 in
theorem ggX8_round_X8_in : GoodIn wsX8_round wsX8_in := goodIn_r _ [4] (by decide +kernel) (by decide +kernel)
set_option maxRecDepth 20000 in
theorem gX8_round_X8_in : GoodIn wsX8_round (va_wsS RX8 59 yX8_in wsX8_in) := goodIn_app (goodIn_of _ (by decide +kernel)) ggX8_round_X8_in
theorem dX8_round_0 : decode cX8_round 0 = .ok (.iload_n 1, 1) := by decide +kernel
theorem dX8_round_1 : decode cX8_round 1 = .ok (.iconst 1, 1) := by decide +kernel
theorem dX8_round_2 : decode cX8_round 2 = .ok (.bipush 99, 2) := by decide +kernel
theorem dX8_round_4 : decode cX8_round 4 = .ok (.invokestatic 59, 3) := by decide +kernel
theorem dX8_round_7 : decode cX8_round 7 = .ok (.ifCond .eq 34, 3) := by decide +kernel
theorem dX8_round_10 : decode cX8_round 10 = .ok (.iload_n 3, 1) := by decide +kernel
theorem dX8_round_11 : decode cX8_round 11 = .ok (.iconst 1, 1) := by decide +kernel
theorem dX8_round_12 : decode cX8_round 12 = .ok (.bipush 99, 2) := by decide +kernel
theorem dX8_round_14 : decode cX8_round 14 = .ok (.invokestatic 59, 3) := by decide +kernel
theorem dX8_round_17 : decode cX8_round 17 = .ok (.ifCond .eq 24, 3) := by decide +kernel
theorem dX8_round_20 : decode cX8_round 20 = .ok (.iload_n 2, 1) := by decide +kernel
theorem dX8_round_21 : decode cX8_round 21 = .ok (.iconst 0, 1) := by decide +kernel
theorem dX8_round_22 : decode cX8_round 22 = .ok (.bipush 99, 2) := by decide +kernel
theorem dX8_round_24 : decode cX8_round 24 = .ok (.invokestatic 59, 3) := by decide +kernel
theorem dX8_round_27 : decode cX8_round 27 = .ok (.ifCond .eq 14, 3) := by decide +kernel
theorem dX8_round_30 : decode cX8_round 30 = .ok (.iload 4, 2) := by decide +kernel
theorem dX8_round_32 : decode cX8_round 32 = .ok (.iconst 0, 1) := by decide +kernel
theorem dX8_round_33 : decode cX8_round 33 = .ok (.bipush 99, 2) := by decide +kernel
theorem dX8_round_35 : decode cX8_round 35 = .ok (.invokestatic 59, 3) := by decide +kernel
theorem dX8_round_38 : decode cX8_round 38 = .ok (.ifCond .ne 6, 3) := by decide +kernel
theorem dX8_round_41 : decode cX8_round 41 = .ok (.bipush (-2), 2) := by decide +kernel
theorem dX8_round_43 : decode cX8_round 43 = .ok (.ireturn, 1) := by decide +kernel
theorem dX8_round_44 : decode cX8_round 44 = .ok (.iconst 0, 1) := by decide +kernel
theorem dX8_round_45 : decode cX8_round 45 = .ok (.istore 5, 2) := by decide +kernel
theorem dX8_round_47 : decode cX8_round 47 = .ok (.iload 5, 2) := by decide +kernel
theorem dX8_round_49 : decode cX8_round 49 = .ok (.iload_n 1, 1) := by decide +kernel
theorem dX8_round_50 : decode cX8_round 50 = .ok (.iload_n 3, 1) := by decide +kernel
theorem dX8_round_51 : decode cX8_round 51 = .ok (.imul, 1) := by decide +kernel
theorem dX8_round_52 : decode cX8_round 52 = .ok (.if_icmp .ge 31, 3) := by decide +kernel
theorem dX8_round_55 : decode cX8_round 55 = .ok (.iload 5, 2) := by decide +kernel
theorem dX8_round_57 : decode cX8_round 57 = .ok (.iload_n 2, 1) := by decide +kernel
theorem dX8_round_58 : decode cX8_round 58 = .ok (.iadd, 1) := by decide +kernel
theorem dX8_round_59 : decode cX8_round 59 = .ok (.iload_n 1, 1) := by decide +kernel
theorem dX8_round_60 : decode cX8_round 60 = .ok (.irem, 1) := by decide +kernel
theorem dX8_round_61 : decode cX8_round 61 = .ok (.ifCond .ne 16, 3) := by decide +kernel
theorem dX8_round_64 : decode cX8_round 64 = .ok (.iload 5, 2) := by decide +kernel
theorem dX8_round_66 : decode cX8_round 66 = .ok (.iload 4, 2) := by decide +kernel
theorem dX8_round_68 : decode cX8_round 68 = .ok (.iadd, 1) := by decide +kernel
theorem dX8_round_69 : decode cX8_round 69 = .ok (.iload_n 3, 1) := by decide +kernel
theorem dX8_round_70 : decode cX8_round 70 = .ok (.irem, 1) := by decide +kernel
theorem dX8_round_71 : decode cX8_round 71 = .ok (.ifCond .ne 6, 3) := by decide +kernel
theorem dX8_round_74 : decode cX8_round 74 = .ok (.iload 5, 2) := by decide +kernel
theorem dX8_round_76 : decode cX8_round 76 = .ok (.ireturn, 1) := by decide +kernel
theorem dX8_round_77 : decode cX8_round 77 = .ok (.iinc 5 1, 3) := by decide +kernel
theorem dX8_round_80 : decode cX8_round 80 = .ok (.goto (-33), 3) := by decide +kernel
theorem dX8_round_83 : decode cX8_round 83 = .ok (.bipush (-6), 2) := by decide +kernel
theorem dX8_round_85 : decode cX8_round 85 = .ok (.ireturn, 1) := by decide +kernel
set_option maxRecDepth 20000 in
theorem ggX8_layApart_X8_layFar : GoodIn wsX8_layApart wsX8_layFar := goodIn_r _ [8, 3, 9, 10, 11, 12, 7, 13, 14, 15, 16, 17, 18, 19, 20, 21, 22, 23, 24, 25, 26, 27, 28, 29, 30, 31, 32, 33, 34, 35, 36, 37] (by decide +kernel) (by decide +kernel)
set_option maxRecDepth 20000 in
theorem gX8_layApart_X8_layFar : GoodIn wsX8_layApart (wsV RX8 145 RX8 yX8_layFar wsX8_layFar) := goodIn_app (goodIn_of _ (by decide +kernel)) ggX8_layApart_X8_layFar
theorem dX8_layApart_0 : decode cX8_layApart 0 = .ok (.iconst 0, 1) := by decide +kernel
theorem dX8_layApart_1 : decode cX8_layApart 1 = .ok (.istore_n 1, 1) := by decide +kernel
theorem dX8_layApart_2 : decode cX8_layApart 2 = .ok (.iload_n 1, 1) := by decide +kernel
theorem dX8_layApart_3 : decode cX8_layApart 3 = .ok (.bipush 10, 2) := by decide +kernel
theorem dX8_layApart_5 : decode cX8_layApart 5 = .ok (.if_icmp .ge 58, 3) := by decide +kernel
theorem dX8_layApart_8 : decode cX8_layApart 8 = .ok (.aload_n 0, 1) := by decide +kernel
theorem dX8_layApart_9 : decode cX8_layApart 9 = .ok (.iload_n 1, 1) := by decide +kernel
theorem dX8_layApart_10 : decode cX8_layApart 10 = .ok (.sipush 1023, 3) := by decide +kernel
theorem dX8_layApart_13 : decode cX8_layApart 13 = .ok (.aload_n 0, 1) := by decide +kernel
theorem dX8_layApart_14 : decode cX8_layApart 14 = .ok (.getfield 7, 3) := by decide +kernel
theorem dX8_layApart_17 : decode cX8_layApart 17 = .ok (.bipush 34, 2) := by decide +kernel
theorem dX8_layApart_19 : decode cX8_layApart 19 = .ok (.iaload, 1) := by decide +kernel
theorem dX8_layApart_20 : decode cX8_layApart 20 = .ok (.iconst (-1), 1) := by decide +kernel
theorem dX8_layApart_21 : decode cX8_layApart 21 = .ok (.ixor, 1) := by decide +kernel
theorem dX8_layApart_22 : decode cX8_layApart 22 = .ok (.iand, 1) := by decide +kernel
theorem dX8_layApart_23 : decode cX8_layApart 23 = .ok (.invokevirtual 145, 3) := by decide +kernel
theorem dX8_layApart_26 : decode cX8_layApart 26 = .ok (.iconst 0, 1) := by decide +kernel
theorem dX8_layApart_27 : decode cX8_layApart 27 = .ok (.istore_n 2, 1) := by decide +kernel
theorem dX8_layApart_28 : decode cX8_layApart 28 = .ok (.iload_n 2, 1) := by decide +kernel
theorem dX8_layApart_29 : decode cX8_layApart 29 = .ok (.bipush 10, 2) := by decide +kernel
theorem dX8_layApart_31 : decode cX8_layApart 31 = .ok (.if_icmp .ge 26, 3) := by decide +kernel
theorem dX8_layApart_34 : decode cX8_layApart 34 = .ok (.aload_n 0, 1) := by decide +kernel
theorem dX8_layApart_35 : decode cX8_layApart 35 = .ok (.getfield 47, 3) := by decide +kernel
theorem dX8_layApart_38 : decode cX8_layApart 38 = .ok (.bipush 10, 2) := by decide +kernel
theorem dX8_layApart_40 : decode cX8_layApart 40 = .ok (.iload_n 1, 1) := by decide +kernel
theorem dX8_layApart_41 : decode cX8_layApart 41 = .ok (.imul, 1) := by decide +kernel
theorem dX8_layApart_42 : decode cX8_layApart 42 = .ok (.iload_n 2, 1) := by decide +kernel
theorem dX8_layApart_43 : decode cX8_layApart 43 = .ok (.iadd, 1) := by decide +kernel
theorem dX8_layApart_44 : decode cX8_layApart 44 = .ok (.aload_n 0, 1) := by decide +kernel
theorem dX8_layApart_45 : decode cX8_layApart 45 = .ok (.getfield 40, 3) := by decide +kernel
theorem dX8_layApart_48 : decode cX8_layApart 48 = .ok (.iload_n 2, 1) := by decide +kernel
theorem dX8_layApart_49 : decode cX8_layApart 49 = .ok (.iaload, 1) := by decide +kernel
theorem dX8_layApart_50 : decode cX8_layApart 50 = .ok (.iastore, 1) := by decide +kernel
theorem dX8_layApart_51 : decode cX8_layApart 51 = .ok (.iinc 2 1, 3) := by decide +kernel
theorem dX8_layApart_54 : decode cX8_layApart 54 = .ok (.goto (-26), 3) := by decide +kernel
theorem dX8_layApart_57 : decode cX8_layApart 57 = .ok (.iinc 1 1, 3) := by decide +kernel
theorem dX8_layApart_60 : decode cX8_layApart 60 = .ok (.goto (-58), 3) := by decide +kernel
theorem dX8_layApart_63 : decode cX8_layApart 63 = .ok (.return_, 1) := by decide +kernel
set_option maxRecDepth 20000 in
theorem ggX8_heard_X8_isGallery : GoodIn wsX8_heard wsX8_isGallery := goodIn_r _ [6, 7, 8, 5, 9] (by decide +kernel) (by decide +kernel)
set_option maxRecDepth 20000 in
theorem gX8_heard_X8_isGallery : GoodIn wsX8_heard (va_wsS RX8 71 yX8_isGallery wsX8_isGallery) := goodIn_app (goodIn_of _ (by decide +kernel)) ggX8_heard_X8_isGallery
set_option maxRecDepth 20000 in
theorem ggX8_heard_X8_in : GoodIn wsX8_heard wsX8_in := goodIn_r _ [9] (by decide +kernel) (by decide +kernel)
set_option maxRecDepth 20000 in
theorem gX8_heard_X8_in : GoodIn wsX8_heard (va_wsS RX8 59 yX8_in wsX8_in) := goodIn_app (goodIn_of _ (by decide +kernel)) ggX8_heard_X8_in
theorem dX8_heard_0 : decode cX8_heard 0 = .ok (.iload_n 1, 1) := by decide +kernel
theorem dX8_heard_1 : decode cX8_heard 1 = .ok (.invokestatic 71, 3) := by decide +kernel
theorem dX8_heard_4 : decode cX8_heard 4 = .ok (.ifCond .ne 5, 3) := by decide +kernel
theorem dX8_heard_7 : decode cX8_heard 7 = .ok (.iconst (-1), 1) := by decide +kernel
theorem dX8_heard_8 : decode cX8_heard 8 = .ok (.ireturn, 1) := by decide +kernel
theorem dX8_heard_9 : decode cX8_heard 9 = .ok (.iload_n 2, 1) := by decide +kernel
theorem dX8_heard_10 : decode cX8_heard 10 = .ok (.iconst (-1), 1) := by decide +kernel
theorem dX8_heard_11 : decode cX8_heard 11 = .ok (.bipush 23, 2) := by decide +kernel
theorem dX8_heard_13 : decode cX8_heard 13 = .ok (.invokestatic 59, 3) := by decide +kernel
theorem dX8_heard_16 : decode cX8_heard 16 = .ok (.ifCond .ne 6, 3) := by decide +kernel
theorem dX8_heard_19 : decode cX8_heard 19 = .ok (.bipush (-2), 2) := by decide +kernel
theorem dX8_heard_21 : decode cX8_heard 21 = .ok (.ireturn, 1) := by decide +kernel
theorem dX8_heard_22 : decode cX8_heard 22 = .ok (.aload_n 0, 1) := by decide +kernel
theorem dX8_heard_23 : decode cX8_heard 23 = .ok (.getfield 160, 3) := by decide +kernel
theorem dX8_heard_26 : decode cX8_heard 26 = .ok (.bipush 8, 2) := by decide +kernel
theorem dX8_heard_28 : decode cX8_heard 28 = .ok (.if_icmp .ne 6, 3) := by decide +kernel
theorem dX8_heard_31 : decode cX8_heard 31 = .ok (.bipush (-4), 2) := by decide +kernel
theorem dX8_heard_33 : decode cX8_heard 33 = .ok (.ireturn, 1) := by decide +kernel
theorem dX8_heard_34 : decode cX8_heard 34 = .ok (.aload_n 0, 1) := by decide +kernel
theorem dX8_heard_35 : decode cX8_heard 35 = .ok (.getfield 31, 3) := by decide +kernel
theorem dX8_heard_38 : decode cX8_heard 38 = .ok (.iconst 2, 1) := by decide +kernel
theorem dX8_heard_39 : decode cX8_heard 39 = .ok (.aload_n 0, 1) := by decide +kernel
theorem dX8_heard_40 : decode cX8_heard 40 = .ok (.getfield 160, 3) := by decide +kernel
theorem dX8_heard_43 : decode cX8_heard 43 = .ok (.imul, 1) := by decide +kernel
theorem dX8_heard_44 : decode cX8_heard 44 = .ok (.iload_n 1, 1) := by decide +kernel
theorem dX8_heard_45 : decode cX8_heard 45 = .ok (.iastore, 1) := by decide +kernel
theorem dX8_heard_46 : decode cX8_heard 46 = .ok (.aload_n 0, 1) := by decide +kernel
theorem dX8_heard_47 : decode cX8_heard 47 = .ok (.getfield 31, 3) := by decide +kernel
theorem dX8_heard_50 : decode cX8_heard 50 = .ok (.iconst 2, 1) := by decide +kernel
theorem dX8_heard_51 : decode cX8_heard 51 = .ok (.aload_n 0, 1) := by decide +kernel
theorem dX8_heard_52 : decode cX8_heard 52 = .ok (.getfield 160, 3) := by decide +kernel
theorem dX8_heard_55 : decode cX8_heard 55 = .ok (.imul, 1) := by decide +kernel
theorem dX8_heard_56 : decode cX8_heard 56 = .ok (.iconst 1, 1) := by decide +kernel
theorem dX8_heard_57 : decode cX8_heard 57 = .ok (.iadd, 1) := by decide +kernel
theorem dX8_heard_58 : decode cX8_heard 58 = .ok (.iload_n 2, 1) := by decide +kernel
theorem dX8_heard_59 : decode cX8_heard 59 = .ok (.iastore, 1) := by decide +kernel
theorem dX8_heard_60 : decode cX8_heard 60 = .ok (.aload_n 0, 1) := by decide +kernel
theorem dX8_heard_61 : decode cX8_heard 61 = .ok (.dup, 1) := by decide +kernel
theorem dX8_heard_62 : decode cX8_heard 62 = .ok (.getfield 160, 3) := by decide +kernel
theorem dX8_heard_65 : decode cX8_heard 65 = .ok (.iconst 1, 1) := by decide +kernel
theorem dX8_heard_66 : decode cX8_heard 66 = .ok (.iadd, 1) := by decide +kernel
theorem dX8_heard_67 : decode cX8_heard 67 = .ok (.putfield 160, 3) := by decide +kernel
theorem dX8_heard_70 : decode cX8_heard 70 = .ok (.aload_n 0, 1) := by decide +kernel
theorem dX8_heard_71 : decode cX8_heard 71 = .ok (.getfield 160, 3) := by decide +kernel
theorem dX8_heard_74 : decode cX8_heard 74 = .ok (.ireturn, 1) := by decide +kernel
theorem dX8_forget_0 : decode cX8_forget 0 = .ok (.aload_n 0, 1) := by decide +kernel
theorem dX8_forget_1 : decode cX8_forget 1 = .ok (.getfield 160, 3) := by decide +kernel
theorem dX8_forget_4 : decode cX8_forget 4 = .ok (.istore_n 1, 1) := by decide +kernel
theorem dX8_forget_5 : decode cX8_forget 5 = .ok (.aload_n 0, 1) := by decide +kernel
theorem dX8_forget_6 : decode cX8_forget 6 = .ok (.iconst 0, 1) := by decide +kernel
theorem dX8_forget_7 : decode cX8_forget 7 = .ok (.putfield 160, 3) := by decide +kernel
theorem dX8_forget_10 : decode cX8_forget 10 = .ok (.iload_n 1, 1) := by decide +kernel
theorem dX8_forget_11 : decode cX8_forget 11 = .ok (.ireturn, 1) := by decide +kernel
theorem dX8_noteIn_0 : decode cX8_noteIn 0 = .ok (.iload_n 1, 1) := by decide +kernel
theorem dX8_noteIn_1 : decode cX8_noteIn 1 = .ok (.bipush 100, 2) := by decide +kernel
theorem dX8_noteIn_3 : decode cX8_noteIn 3 = .ok (.irem, 1) := by decide +kernel
theorem dX8_noteIn_4 : decode cX8_noteIn 4 = .ok (.aload_n 0, 1) := by decide +kernel
theorem dX8_noteIn_5 : decode cX8_noteIn 5 = .ok (.getfield 47, 3) := by decide +kernel
theorem dX8_noteIn_8 : decode cX8_noteIn 8 = .ok (.iload_n 1, 1) := by decide +kernel
theorem dX8_noteIn_9 : decode cX8_noteIn 9 = .ok (.bipush 100, 2) := by decide +kernel
theorem dX8_noteIn_11 : decode cX8_noteIn 11 = .ok (.idiv, 1) := by decide +kernel
theorem dX8_noteIn_12 : decode cX8_noteIn 12 = .ok (.bipush 10, 2) := by decide +kernel
theorem dX8_noteIn_14 : decode cX8_noteIn 14 = .ok (.imul, 1) := by decide +kernel
theorem dX8_noteIn_15 : decode cX8_noteIn 15 = .ok (.iload_n 2, 1) := by decide +kernel
theorem dX8_noteIn_16 : decode cX8_noteIn 16 = .ok (.iadd, 1) := by decide +kernel
theorem dX8_noteIn_17 : decode cX8_noteIn 17 = .ok (.iaload, 1) := by decide +kernel
theorem dX8_noteIn_18 : decode cX8_noteIn 18 = .ok (.isub, 1) := by decide +kernel
theorem dX8_noteIn_19 : decode cX8_noteIn 19 = .ok (.istore_n 3, 1) := by decide +kernel
theorem dX8_noteIn_20 : decode cX8_noteIn 20 = .ok (.iload_n 3, 1) := by decide +kernel
theorem dX8_noteIn_21 : decode cX8_noteIn 21 = .ok (.ifCond .ge 7, 3) := by decide +kernel
theorem dX8_noteIn_24 : decode cX8_noteIn 24 = .ok (.iconst (-1), 1) := by decide +kernel
theorem dX8_noteIn_25 : decode cX8_noteIn 25 = .ok (.goto 4, 3) := by decide +kernel
theorem dX8_noteIn_28 : decode cX8_noteIn 28 = .ok (.iload_n 3, 1) := by decide +kernel
theorem dX8_noteIn_29 : decode cX8_noteIn 29 = .ok (.ireturn, 1) := by decide +kernel
set_option maxRecDepth 20000 in
theorem ggX8_isLost_X8_noteIn : GoodIn wsX8_isLost wsX8_noteIn := goodIn_r _ [7, 8, 9, 10, 11, 12, 13, 14, 15, 16, 17, 18, 19, 20, 21, 22, 23, 24, 25, 26, 27, 28, 29, 30, 31, 32] (by decide +kernel) (by decide +kernel)
set_option maxRecDepth 20000 in
theorem gX8_isLost_X8_noteIn : GoodIn wsX8_isLost (wsV RX8 163 RX8 yX8_noteIn wsX8_noteIn) := goodIn_app (goodIn_of _ (by decide +kernel)) ggX8_isLost_X8_noteIn
theorem dX8_isLost_0 : decode cX8_isLost 0 = .ok (.iload_n 1, 1) := by decide +kernel
theorem dX8_isLost_1 : decode cX8_isLost 1 = .ok (.bipush 100, 2) := by decide +kernel
theorem dX8_isLost_3 : decode cX8_isLost 3 = .ok (.irem, 1) := by decide +kernel
theorem dX8_isLost_4 : decode cX8_isLost 4 = .ok (.bipush 24, 2) := by decide +kernel
theorem dX8_isLost_6 : decode cX8_isLost 6 = .ok (.if_icmp .ge 7, 3) := by decide +kernel
