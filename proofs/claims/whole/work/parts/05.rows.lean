theorem dX3_mostLeftHere_27 : decode cX3_mostLeftHere 27 = .ok (.getfield 60, 3) := by decide +kernel
theorem dX3_mostLeftHere_30 : decode cX3_mostLeftHere 30 = .ok (.iload_n 1, 1) := by decide +kernel
theorem dX3_mostLeftHere_31 : decode cX3_mostLeftHere 31 = .ok (.iaload, 1) := by decide +kernel
theorem dX3_mostLeftHere_32 : decode cX3_mostLeftHere 32 = .ok (.invokevirtual 80, 3) := by decide +kernel
theorem dX3_mostLeftHere_35 : decode cX3_mostLeftHere 35 = .ok (.iinc 1 1, 3) := by decide +kernel
theorem dX3_mostLeftHere_38 : decode cX3_mostLeftHere 38 = .ok (.goto (-28), 3) := by decide +kernel
theorem dX3_mostLeftHere_41 : decode cX3_mostLeftHere 41 = .ok (.iconst 0, 1) := by decide +kernel
theorem dX3_mostLeftHere_42 : decode cX3_mostLeftHere 42 = .ok (.istore_n 1, 1) := by decide +kernel
theorem dX3_mostLeftHere_43 : decode cX3_mostLeftHere 43 = .ok (.iconst 0, 1) := by decide +kernel
theorem dX3_mostLeftHere_44 : decode cX3_mostLeftHere 44 = .ok (.istore_n 2, 1) := by decide +kernel
theorem dX3_mostLeftHere_45 : decode cX3_mostLeftHere 45 = .ok (.iload_n 2, 1) := by decide +kernel
theorem dX3_mostLeftHere_46 : decode cX3_mostLeftHere 46 = .ok (.bipush 24, 2) := by decide +kernel
theorem dX3_mostLeftHere_48 : decode cX3_mostLeftHere 48 = .ok (.if_icmp .gt 20, 3) := by decide +kernel
theorem dX3_mostLeftHere_51 : decode cX3_mostLeftHere 51 = .ok (.iload_n 1, 1) := by decide +kernel
theorem dX3_mostLeftHere_52 : decode cX3_mostLeftHere 52 = .ok (.aload_n 0, 1) := by decide +kernel
theorem dX3_mostLeftHere_53 : decode cX3_mostLeftHere 53 = .ok (.getfield 22, 3) := by decide +kernel
theorem dX3_mostLeftHere_56 : decode cX3_mostLeftHere 56 = .ok (.iload_n 2, 1) := by decide +kernel
theorem dX3_mostLeftHere_57 : decode cX3_mostLeftHere 57 = .ok (.iaload, 1) := by decide +kernel
theorem dX3_mostLeftHere_58 : decode cX3_mostLeftHere 58 = .ok (.invokestatic 84, 3) := by decide +kernel
theorem dX3_mostLeftHere_61 : decode cX3_mostLeftHere 61 = .ok (.istore_n 1, 1) := by decide +kernel
theorem dX3_mostLeftHere_62 : decode cX3_mostLeftHere 62 = .ok (.iinc 2 1, 3) := by decide +kernel
theorem dX3_mostLeftHere_65 : decode cX3_mostLeftHere 65 = .ok (.goto (-20), 3) := by decide +kernel
theorem dX3_mostLeftHere_68 : decode cX3_mostLeftHere 68 = .ok (.iload_n 1, 1) := by decide +kernel
theorem dX3_mostLeftHere_69 : decode cX3_mostLeftHere 69 = .ok (.ireturn, 1) := by decide +kernel
set_option maxRecDepth 20000 in
theorem ggX3_countHeard_J6_bitCount_0f7a4 : GoodIn wsX3_countHeard wsJ6_bitCount_0f7a4 := goodIn_r _ [5, 6, 7, 8] (by decide +kernel) (by decide +kernel)
set_option maxRecDepth 20000 in
theorem gX3_countHeard_J6_bitCount_0f7a4 : GoodIn wsX3_countHeard (va_wsS RX3 67 yJ6_bitCount_0f7a4 wsJ6_bitCount_0f7a4) := goodIn_app (goodIn_of _ (by decide +kernel)) ggX3_countHeard_J6_bitCount_0f7a4
set_option maxRecDepth 20000 in
theorem ggX3_countHeard_X7_has : GoodIn wsX3_countHeard wsX7_has := goodIn_r _ [11] (by decide +kernel) (by decide +kernel)
set_option maxRecDepth 20000 in
theorem gX3_countHeard_X7_has_n89 : GoodIn wsX3_countHeard (wsX7_has) := ggX3_countHeard_X7_has
theorem dX3_countHeard_0 : decode cX3_countHeard 0 = .ok (.iload_n 2, 1) := by decide +kernel
theorem dX3_countHeard_1 : decode cX3_countHeard 1 = .ok (.ifCond .ge 17, 3) := by decide +kernel
theorem dX3_countHeard_4 : decode cX3_countHeard 4 = .ok (.aload_n 0, 1) := by decide +kernel
theorem dX3_countHeard_5 : decode cX3_countHeard 5 = .ok (.getfield 22, 3) := by decide +kernel
theorem dX3_countHeard_8 : decode cX3_countHeard 8 = .ok (.iconst 0, 1) := by decide +kernel
theorem dX3_countHeard_9 : decode cX3_countHeard 9 = .ok (.dup2, 1) := by decide +kernel
theorem dX3_countHeard_10 : decode cX3_countHeard 10 = .ok (.iaload, 1) := by decide +kernel
theorem dX3_countHeard_11 : decode cX3_countHeard 11 = .ok (.iload_n 1, 1) := by decide +kernel
theorem dX3_countHeard_12 : decode cX3_countHeard 12 = .ok (.invokestatic 67, 3) := by decide +kernel
theorem dX3_countHeard_15 : decode cX3_countHeard 15 = .ok (.iadd, 1) := by decide +kernel
theorem dX3_countHeard_16 : decode cX3_countHeard 16 = .ok (.iastore, 1) := by decide +kernel
theorem dX3_countHeard_17 : decode cX3_countHeard 17 = .ok (.return_, 1) := by decide +kernel
theorem dX3_countHeard_18 : decode cX3_countHeard 18 = .ok (.iconst 0, 1) := by decide +kernel
theorem dX3_countHeard_19 : decode cX3_countHeard 19 = .ok (.istore_n 3, 1) := by decide +kernel
theorem dX3_countHeard_20 : decode cX3_countHeard 20 = .ok (.iload_n 3, 1) := by decide +kernel
theorem dX3_countHeard_21 : decode cX3_countHeard 21 = .ok (.bipush 24, 2) := by decide +kernel
theorem dX3_countHeard_23 : decode cX3_countHeard 23 = .ok (.if_icmp .ge 40, 3) := by decide +kernel
theorem dX3_countHeard_26 : decode cX3_countHeard 26 = .ok (.iload_n 1, 1) := by decide +kernel
theorem dX3_countHeard_27 : decode cX3_countHeard 27 = .ok (.iload_n 3, 1) := by decide +kernel
theorem dX3_countHeard_28 : decode cX3_countHeard 28 = .ok (.invokestatic 89, 3) := by decide +kernel
theorem dX3_countHeard_31 : decode cX3_countHeard 31 = .ok (.ifCond .eq 26, 3) := by decide +kernel
theorem dX3_countHeard_34 : decode cX3_countHeard 34 = .ok (.aload_n 0, 1) := by decide +kernel
theorem dX3_countHeard_35 : decode cX3_countHeard 35 = .ok (.getfield 22, 3) := by decide +kernel
theorem dX3_countHeard_38 : decode cX3_countHeard 38 = .ok (.iload_n 3, 1) := by decide +kernel
theorem dX3_countHeard_39 : decode cX3_countHeard 39 = .ok (.iload_n 2, 1) := by decide +kernel
theorem dX3_countHeard_40 : decode cX3_countHeard 40 = .ok (.if_icmp .ge 7, 3) := by decide +kernel
theorem dX3_countHeard_43 : decode cX3_countHeard 43 = .ok (.iconst 0, 1) := by decide +kernel
theorem dX3_countHeard_44 : decode cX3_countHeard 44 = .ok (.goto 8, 3) := by decide +kernel
theorem dX3_countHeard_47 : decode cX3_countHeard 47 = .ok (.iconst 1, 1) := by decide +kernel
theorem dX3_countHeard_48 : decode cX3_countHeard 48 = .ok (.iload_n 3, 1) := by decide +kernel
theorem dX3_countHeard_49 : decode cX3_countHeard 49 = .ok (.iadd, 1) := by decide +kernel
theorem dX3_countHeard_50 : decode cX3_countHeard 50 = .ok (.iload_n 2, 1) := by decide +kernel
theorem dX3_countHeard_51 : decode cX3_countHeard 51 = .ok (.isub, 1) := by decide +kernel
theorem dX3_countHeard_52 : decode cX3_countHeard 52 = .ok (.dup2, 1) := by decide +kernel
theorem dX3_countHeard_53 : decode cX3_countHeard 53 = .ok (.iaload, 1) := by decide +kernel
theorem dX3_countHeard_54 : decode cX3_countHeard 54 = .ok (.iconst 1, 1) := by decide +kernel
theorem dX3_countHeard_55 : decode cX3_countHeard 55 = .ok (.iadd, 1) := by decide +kernel
theorem dX3_countHeard_56 : decode cX3_countHeard 56 = .ok (.iastore, 1) := by decide +kernel
theorem dX3_countHeard_57 : decode cX3_countHeard 57 = .ok (.iinc 3 1, 3) := by decide +kernel
theorem dX3_countHeard_60 : decode cX3_countHeard 60 = .ok (.goto (-40), 3) := by decide +kernel
theorem dX3_countHeard_63 : decode cX3_countHeard 63 = .ok (.return_, 1) := by decide +kernel
theorem dX3_notesHeardAs_0 : decode cX3_notesHeardAs 0 = .ok (.iload_n 1, 1) := by decide +kernel
theorem dX3_notesHeardAs_1 : decode cX3_notesHeardAs 1 = .ok (.ifCond .ge 15, 3) := by decide +kernel
theorem dX3_notesHeardAs_4 : decode cX3_notesHeardAs 4 = .ok (.iload_n 0, 1) := by decide +kernel
theorem dX3_notesHeardAs_5 : decode cX3_notesHeardAs 5 = .ok (.iconst (-1), 1) := by decide +kernel
theorem dX3_notesHeardAs_6 : decode cX3_notesHeardAs 6 = .ok (.if_icmp .ne 8, 3) := by decide +kernel
theorem dX3_notesHeardAs_9 : decode cX3_notesHeardAs 9 = .ok (.ldc 32, 2) := by decide +kernel
theorem dX3_notesHeardAs_11 : decode cX3_notesHeardAs 11 = .ok (.goto 4, 3) := by decide +kernel
theorem dX3_notesHeardAs_14 : decode cX3_notesHeardAs 14 = .ok (.iconst 0, 1) := by decide +kernel
theorem dX3_notesHeardAs_15 : decode cX3_notesHeardAs 15 = .ok (.ireturn, 1) := by decide +kernel
theorem dX3_notesHeardAs_16 : decode cX3_notesHeardAs 16 = .ok (.iload_n 0, 1) := by decide +kernel
theorem dX3_notesHeardAs_17 : decode cX3_notesHeardAs 17 = .ok (.iconst (-1), 1) := by decide +kernel
theorem dX3_notesHeardAs_18 : decode cX3_notesHeardAs 18 = .ok (.if_icmp .ne 9, 3) := by decide +kernel
theorem dX3_notesHeardAs_21 : decode cX3_notesHeardAs 21 = .ok (.iconst 1, 1) := by decide +kernel
theorem dX3_notesHeardAs_22 : decode cX3_notesHeardAs 22 = .ok (.iload_n 1, 1) := by decide +kernel
theorem dX3_notesHeardAs_23 : decode cX3_notesHeardAs 23 = .ok (.ishl, 1) := by decide +kernel
theorem dX3_notesHeardAs_24 : decode cX3_notesHeardAs 24 = .ok (.iconst 1, 1) := by decide +kernel
theorem dX3_notesHeardAs_25 : decode cX3_notesHeardAs 25 = .ok (.isub, 1) := by decide +kernel
theorem dX3_notesHeardAs_26 : decode cX3_notesHeardAs 26 = .ok (.ireturn, 1) := by decide +kernel
theorem dX3_notesHeardAs_27 : decode cX3_notesHeardAs 27 = .ok (.iload_n 0, 1) := by decide +kernel
theorem dX3_notesHeardAs_28 : decode cX3_notesHeardAs 28 = .ok (.iload_n 1, 1) := by decide +kernel
theorem dX3_notesHeardAs_29 : decode cX3_notesHeardAs 29 = .ok (.iadd, 1) := by decide +kernel
theorem dX3_notesHeardAs_30 : decode cX3_notesHeardAs 30 = .ok (.istore_n 2, 1) := by decide +kernel
theorem dX3_notesHeardAs_31 : decode cX3_notesHeardAs 31 = .ok (.iload_n 2, 1) := by decide +kernel
theorem dX3_notesHeardAs_32 : decode cX3_notesHeardAs 32 = .ok (.bipush 24, 2) := by decide +kernel
theorem dX3_notesHeardAs_34 : decode cX3_notesHeardAs 34 = .ok (.if_icmp .ge 9, 3) := by decide +kernel
theorem dX3_notesHeardAs_37 : decode cX3_notesHeardAs 37 = .ok (.iconst 1, 1) := by decide +kernel
theorem dX3_notesHeardAs_38 : decode cX3_notesHeardAs 38 = .ok (.iload_n 2, 1) := by decide +kernel
theorem dX3_notesHeardAs_39 : decode cX3_notesHeardAs 39 = .ok (.ishl, 1) := by decide +kernel
theorem dX3_notesHeardAs_40 : decode cX3_notesHeardAs 40 = .ok (.goto 4, 3) := by decide +kernel
theorem dX3_notesHeardAs_43 : decode cX3_notesHeardAs 43 = .ok (.iconst 0, 1) := by decide +kernel
theorem dX3_notesHeardAs_44 : decode cX3_notesHeardAs 44 = .ok (.ireturn, 1) := by decide +kernel
set_option maxRecDepth 20000 in
theorem ggX3_bitAt_X7_leastOf : GoodIn wsX3_bitAt wsX7_leastOf := goodIn_r _ [3, 4, 5, 6, 7, 8] (by decide +kernel) (by decide +kernel)
set_option maxRecDepth 20000 in
theorem gX3_bitAt_X7_leastOf_n93 : GoodIn wsX3_bitAt (wsX7_leastOf) := ggX3_bitAt_X7_leastOf
theorem dX3_bitAt_0 : decode cX3_bitAt 0 = .ok (.iload_n 0, 1) := by decide +kernel
theorem dX3_bitAt_1 : decode cX3_bitAt 1 = .ok (.istore_n 2, 1) := by decide +kernel
theorem dX3_bitAt_2 : decode cX3_bitAt 2 = .ok (.iconst 0, 1) := by decide +kernel
theorem dX3_bitAt_3 : decode cX3_bitAt 3 = .ok (.istore_n 3, 1) := by decide +kernel
theorem dX3_bitAt_4 : decode cX3_bitAt 4 = .ok (.iload_n 3, 1) := by decide +kernel
theorem dX3_bitAt_5 : decode cX3_bitAt 5 = .ok (.iload_n 1, 1) := by decide +kernel
theorem dX3_bitAt_6 : decode cX3_bitAt 6 = .ok (.if_icmp .ge 15, 3) := by decide +kernel
theorem dX3_bitAt_9 : decode cX3_bitAt 9 = .ok (.iload_n 2, 1) := by decide +kernel
theorem dX3_bitAt_10 : decode cX3_bitAt 10 = .ok (.iload_n 2, 1) := by decide +kernel
theorem dX3_bitAt_11 : decode cX3_bitAt 11 = .ok (.iconst 1, 1) := by decide +kernel
theorem dX3_bitAt_12 : decode cX3_bitAt 12 = .ok (.isub, 1) := by decide +kernel
theorem dX3_bitAt_13 : decode cX3_bitAt 13 = .ok (.iand, 1) := by decide +kernel
theorem dX3_bitAt_14 : decode cX3_bitAt 14 = .ok (.istore_n 2, 1) := by decide +kernel
theorem dX3_bitAt_15 : decode cX3_bitAt 15 = .ok (.iinc 3 1, 3) := by decide +kernel
theorem dX3_bitAt_18 : decode cX3_bitAt 18 = .ok (.goto (-14), 3) := by decide +kernel
theorem dX3_bitAt_21 : decode cX3_bitAt 21 = .ok (.iload_n 2, 1) := by decide +kernel
theorem dX3_bitAt_22 : decode cX3_bitAt 22 = .ok (.invokestatic 93, 3) := by decide +kernel
theorem dX3_bitAt_25 : decode cX3_bitAt 25 = .ok (.ireturn, 1) := by decide +kernel
set_option maxRecDepth 20000 in
theorem ggX4_init_X1_init : GoodIn wsX4_init wsX1_init := goodIn_r _ [18, 19, 2, 3, 20, 21, 22, 23, 24, 25, 26, 27, 28, 29, 30, 31, 32, 33, 34, 35, 41, 42, 43, 44, 45, 46, 47, 48, 49, 50, 51, 52, 53, 54, 55, 56] (by decide +kernel) (by decide +kernel)
set_option maxRecDepth 20000 in
theorem gX4_init_X1_init : GoodIn wsX4_init (wsX1_init) := ggX4_init_X1_init
set_option maxRecDepth 20000 in
theorem ggX4_init_X0_init : GoodIn wsX4_init wsX0_init := goodIn_r _ [37, 38, 2, 3, 20, 39, 40, 63, 64, 65] (by decide +kernel) (by decide +kernel)
set_option maxRecDepth 20000 in
theorem gX4_init_X0_init_n33 : GoodIn wsX4_init (wsX0_init) := ggX4_init_X0_init
theorem dX4_init_0 : decode cX4_init 0 = .ok (.aload_n 0, 1) := by decide +kernel
theorem dX4_init_1 : decode cX4_init 1 = .ok (.invokespecial 3, 3) := by decide +kernel
theorem dX4_init_4 : decode cX4_init 4 = .ok (.aload_n 0, 1) := by decide +kernel
theorem dX4_init_5 : decode cX4_init 5 = .ok (.new 9, 3) := by decide +kernel
theorem dX4_init_8 : decode cX4_init 8 = .ok (.dup, 1) := by decide +kernel
theorem dX4_init_9 : decode cX4_init 9 = .ok (.invokespecial 11, 3) := by decide +kernel
theorem dX4_init_12 : decode cX4_init 12 = .ok (.putfield 12, 3) := by decide +kernel
theorem dX4_init_15 : decode cX4_init 15 = .ok (.aload_n 0, 1) := by decide +kernel
theorem dX4_init_16 : decode cX4_init 16 = .ok (.bipush (-6), 2) := by decide +kernel
theorem dX4_init_18 : decode cX4_init 18 = .ok (.putfield 18, 3) := by decide +kernel
theorem dX4_init_21 : decode cX4_init 21 = .ok (.aload_n 0, 1) := by decide +kernel
theorem dX4_init_22 : decode cX4_init 22 = .ok (.bipush (-6), 2) := by decide +kernel
theorem dX4_init_24 : decode cX4_init 24 = .ok (.putfield 22, 3) := by decide +kernel
theorem dX4_init_27 : decode cX4_init 27 = .ok (.aload_n 0, 1) := by decide +kernel
theorem dX4_init_28 : decode cX4_init 28 = .ok (.bipush (-6), 2) := by decide +kernel
theorem dX4_init_30 : decode cX4_init 30 = .ok (.putfield 25, 3) := by decide +kernel
theorem dX4_init_33 : decode cX4_init 33 = .ok (.aload_n 0, 1) := by decide +kernel
theorem dX4_init_34 : decode cX4_init 34 = .ok (.bipush (-6), 2) := by decide +kernel
theorem dX4_init_36 : decode cX4_init 36 = .ok (.putfield 28, 3) := by decide +kernel
theorem dX4_init_39 : decode cX4_init 39 = .ok (.aload_n 0, 1) := by decide +kernel
theorem dX4_init_40 : decode cX4_init 40 = .ok (.new 31, 3) := by decide +kernel
theorem dX4_init_43 : decode cX4_init 43 = .ok (.dup, 1) := by decide +kernel
theorem dX4_init_44 : decode cX4_init 44 = .ok (.invokespecial 33, 3) := by decide +kernel
theorem dX4_init_47 : decode cX4_init 47 = .ok (.putfield 34, 3) := by decide +kernel
theorem dX4_init_50 : decode cX4_init 50 = .ok (.return_, 1) := by decide +kernel
set_option maxRecDepth 20000 in
theorem ggX4_tryActs_X1_become : GoodIn wsX4_tryActs wsX1_become := goodIn_r _ [16, 17, 18, 19, 20, 21, 22, 23, 24, 25, 26, 27, 28, 29, 30, 31, 32, 33, 34, 35, 36, 156, 157, 158, 159, 160, 161, 162, 163, 164, 165, 166, 167, 168, 169, 170, 171] (by decide +kernel) (by decide +kernel)
set_option maxRecDepth 20000 in
theorem gX4_tryActs_X1_become : GoodIn wsX4_tryActs (wsV RX4 38 RX1 yX1_become wsX1_become) := goodIn_app (goodIn_of _ (by decide +kernel)) ggX4_tryActs_X1_become
set_option maxRecDepth 20000 in
theorem ggX4_tryActs_X0_shineOn : GoodIn wsX4_tryActs wsX0_shineOn := goodIn_r _ [41, 42, 43, 44, 45, 46, 47, 48, 49, 50, 24, 25, 26, 51, 52, 53, 54, 55, 56, 57, 58, 59, 15, 60, 34, 61, 62, 63, 64, 17, 33, 65, 66, 67, 68, 69, 70, 71, 72, 73, 74, 75, 76, 77, 78, 153, 154, 155, 156, 157, 158, 159, 160, 161, 162, 163, 164, 165, 166, 167, 168, 169, 170, 171] (by decide +kernel) (by decide +kernel)
set_option maxRecDepth 20000 in
theorem gX4_tryActs_X0_shineOn : GoodIn wsX4_tryActs (wsV RX4 42 RX0 yX0_shineOn wsX0_shineOn) := goodIn_app (goodIn_of _ (by decide +kernel)) ggX4_tryActs_X0_shineOn
set_option maxRecDepth 20000 in
theorem ggX4_tryActs_X4_whyNot : GoodIn wsX4_tryActs wsX4_whyNot := goodIn_r _ [83, 1, 84, 85, 86, 87, 88, 82, 89, 90, 91, 92, 93, 94, 95, 15, 96, 19, 97, 66, 98, 65, 67, 99, 100, 101, 102, 103, 104, 105, 140, 141, 142, 143, 144, 145, 156, 157, 158, 159, 160, 161, 162, 163, 164, 165, 166, 167, 168, 169, 170, 171] (by decide +kernel) (by decide +kernel)
set_option maxRecDepth 20000 in
theorem gX4_tryActs_X4_whyNot : GoodIn wsX4_tryActs (wsV RX4 60 RX4 yX4_whyNot wsX4_whyNot) := goodIn_app (goodIn_of _ (by decide +kernel)) ggX4_tryActs_X4_whyNot
set_option maxRecDepth 20000 in
theorem ggX4_tryActs_X4_act : GoodIn wsX4_tryActs wsX4_act := goodIn_r _ [109, 1, 84, 103, 105, 110, 111, 112, 82, 113, 92, 114, 115, 116, 47, 117, 85, 118, 58, 59, 15, 60, 34, 119, 120, 121, 122, 93, 94, 95, 96, 19, 97, 66, 98, 65, 67, 123, 124, 125, 126, 6, 127, 128, 140, 141, 142, 143, 144, 145, 156, 157, 158, 159, 160, 161, 162, 163, 164, 165, 166, 167, 168, 169, 170, 171, 153, 154, 155] (by decide +kernel) (by decide +kernel)
set_option maxRecDepth 20000 in
theorem gX4_tryActs_X4_act : GoodIn wsX4_tryActs (wsV RX4 67 RX4 yX4_act wsX4_act) := goodIn_app (goodIn_of _ (by decide +kernel)) ggX4_tryActs_X4_act
set_option maxRecDepth 20000 in
theorem ggX4_tryActs_X4_rememberDark : GoodIn wsX4_tryActs wsX4_rememberDark := goodIn_r _ [132, 4, 5, 133, 66, 134, 135, 136, 137, 138, 139, 140, 141, 142, 143, 144, 145] (by decide +kernel) (by decide +kernel)
set_option maxRecDepth 20000 in
theorem gX4_tryActs_X4_rememberDark : GoodIn wsX4_tryActs (wsV RX4 71 RX4 yX4_rememberDark wsX4_rememberDark) := goodIn_app (goodIn_of _ (by decide +kernel)) ggX4_tryActs_X4_rememberDark
theorem dX4_tryActs_0 : decode cX4_tryActs 0 = .ok (.aload_n 0, 1) := by decide +kernel
theorem dX4_tryActs_1 : decode cX4_tryActs 1 = .ok (.getfield 12, 3) := by decide +kernel
theorem dX4_tryActs_4 : decode cX4_tryActs 4 = .ok (.aload_n 2, 1) := by decide +kernel
theorem dX4_tryActs_5 : decode cX4_tryActs 5 = .ok (.invokevirtual 38, 3) := by decide +kernel
theorem dX4_tryActs_8 : decode cX4_tryActs 8 = .ok (.aload_n 0, 1) := by decide +kernel
theorem dX4_tryActs_9 : decode cX4_tryActs 9 = .ok (.bipush (-6), 2) := by decide +kernel
theorem dX4_tryActs_11 : decode cX4_tryActs 11 = .ok (.putfield 18, 3) := by decide +kernel
theorem dX4_tryActs_14 : decode cX4_tryActs 14 = .ok (.aload_n 0, 1) := by decide +kernel
theorem dX4_tryActs_15 : decode cX4_tryActs 15 = .ok (.bipush (-6), 2) := by decide +kernel
theorem dX4_tryActs_17 : decode cX4_tryActs 17 = .ok (.putfield 22, 3) := by decide +kernel
theorem dX4_tryActs_20 : decode cX4_tryActs 20 = .ok (.aload_n 0, 1) := by decide +kernel
theorem dX4_tryActs_21 : decode cX4_tryActs 21 = .ok (.bipush (-6), 2) := by decide +kernel
theorem dX4_tryActs_23 : decode cX4_tryActs 23 = .ok (.putfield 25, 3) := by decide +kernel
theorem dX4_tryActs_26 : decode cX4_tryActs 26 = .ok (.aload_n 0, 1) := by decide +kernel
theorem dX4_tryActs_27 : decode cX4_tryActs 27 = .ok (.bipush (-6), 2) := by decide +kernel
theorem dX4_tryActs_29 : decode cX4_tryActs 29 = .ok (.putfield 28, 3) := by decide +kernel
theorem dX4_tryActs_32 : decode cX4_tryActs 32 = .ok (.aload_n 0, 1) := by decide +kernel
theorem dX4_tryActs_33 : decode cX4_tryActs 33 = .ok (.getfield 34, 3) := by decide +kernel
theorem dX4_tryActs_36 : decode cX4_tryActs 36 = .ok (.aload_n 0, 1) := by decide +kernel
theorem dX4_tryActs_37 : decode cX4_tryActs 37 = .ok (.getfield 12, 3) := by decide +kernel
theorem dX4_tryActs_40 : decode cX4_tryActs 40 = .ok (.invokevirtual 42, 3) := by decide +kernel
theorem dX4_tryActs_43 : decode cX4_tryActs 43 = .ok (.iconst 0, 1) := by decide +kernel
theorem dX4_tryActs_44 : decode cX4_tryActs 44 = .ok (.istore_n 3, 1) := by decide +kernel
theorem dX4_tryActs_45 : decode cX4_tryActs 45 = .ok (.iload_n 3, 1) := by decide +kernel
theorem dX4_tryActs_46 : decode cX4_tryActs 46 = .ok (.aload_n 1, 1) := by decide +kernel
theorem dX4_tryActs_47 : decode cX4_tryActs 47 = .ok (.getfield 45, 3) := by decide +kernel
theorem dX4_tryActs_50 : decode cX4_tryActs 50 = .ok (.if_icmp .ge 115, 3) := by decide +kernel
theorem dX4_tryActs_53 : decode cX4_tryActs 53 = .ok (.iload_n 3, 1) := by decide +kernel
theorem dX4_tryActs_54 : decode cX4_tryActs 54 = .ok (.bipush 60, 2) := by decide +kernel
theorem dX4_tryActs_56 : decode cX4_tryActs 56 = .ok (.if_icmp .ge 109, 3) := by decide +kernel
theorem dX4_tryActs_59 : decode cX4_tryActs 59 = .ok (.aload_n 0, 1) := by decide +kernel
theorem dX4_tryActs_60 : decode cX4_tryActs 60 = .ok (.aload_n 1, 1) := by decide +kernel
theorem dX4_tryActs_61 : decode cX4_tryActs 61 = .ok (.getfield 50, 3) := by decide +kernel
theorem dX4_tryActs_64 : decode cX4_tryActs 64 = .ok (.iload_n 3, 1) := by decide +kernel
theorem dX4_tryActs_65 : decode cX4_tryActs 65 = .ok (.iaload, 1) := by decide +kernel
theorem dX4_tryActs_66 : decode cX4_tryActs 66 = .ok (.aload_n 1, 1) := by decide +kernel
theorem dX4_tryActs_67 : decode cX4_tryActs 67 = .ok (.getfield 54, 3) := by decide +kernel
theorem dX4_tryActs_70 : decode cX4_tryActs 70 = .ok (.iload_n 3, 1) := by decide +kernel
theorem dX4_tryActs_71 : decode cX4_tryActs 71 = .ok (.iaload, 1) := by decide +kernel
theorem dX4_tryActs_72 : decode cX4_tryActs 72 = .ok (.aload_n 1, 1) := by decide +kernel
theorem dX4_tryActs_73 : decode cX4_tryActs 73 = .ok (.getfield 57, 3) := by decide +kernel
theorem dX4_tryActs_76 : decode cX4_tryActs 76 = .ok (.iload_n 3, 1) := by decide +kernel
theorem dX4_tryActs_77 : decode cX4_tryActs 77 = .ok (.iaload, 1) := by decide +kernel
theorem dX4_tryActs_78 : decode cX4_tryActs 78 = .ok (.invokevirtual 60, 3) := by decide +kernel
theorem dX4_tryActs_81 : decode cX4_tryActs 81 = .ok (.istore 4, 2) := by decide +kernel
theorem dX4_tryActs_83 : decode cX4_tryActs 83 = .ok (.iload 4, 2) := by decide +kernel
theorem dX4_tryActs_85 : decode cX4_tryActs 85 = .ok (.ifCond .eq 15, 3) := by decide +kernel
theorem dX4_tryActs_88 : decode cX4_tryActs 88 = .ok (.aload_n 0, 1) := by decide +kernel
theorem dX4_tryActs_89 : decode cX4_tryActs 89 = .ok (.iload_n 3, 1) := by decide +kernel
theorem dX4_tryActs_90 : decode cX4_tryActs 90 = .ok (.putfield 18, 3) := by decide +kernel
theorem dX4_tryActs_93 : decode cX4_tryActs 93 = .ok (.aload_n 0, 1) := by decide +kernel
theorem dX4_tryActs_94 : decode cX4_tryActs 94 = .ok (.iload 4, 2) := by decide +kernel
theorem dX4_tryActs_96 : decode cX4_tryActs 96 = .ok (.putfield 22, 3) := by decide +kernel
theorem dX4_tryActs_99 : decode cX4_tryActs 99 = .ok (.return_, 1) := by decide +kernel
theorem dX4_tryActs_100 : decode cX4_tryActs 100 = .ok (.aload_n 0, 1) := by decide +kernel
theorem dX4_tryActs_101 : decode cX4_tryActs 101 = .ok (.getfield 34, 3) := by decide +kernel
theorem dX4_tryActs_104 : decode cX4_tryActs 104 = .ok (.getfield 64, 3) := by decide +kernel
theorem dX4_tryActs_107 : decode cX4_tryActs 107 = .ok (.istore 5, 2) := by decide +kernel
theorem dX4_tryActs_109 : decode cX4_tryActs 109 = .ok (.aload_n 0, 1) := by decide +kernel
theorem dX4_tryActs_110 : decode cX4_tryActs 110 = .ok (.aload_n 1, 1) := by decide +kernel
theorem dX4_tryActs_111 : decode cX4_tryActs 111 = .ok (.getfield 50, 3) := by decide +kernel
theorem dX4_tryActs_114 : decode cX4_tryActs 114 = .ok (.iload_n 3, 1) := by decide +kernel
theorem dX4_tryActs_115 : decode cX4_tryActs 115 = .ok (.iaload, 1) := by decide +kernel
theorem dX4_tryActs_116 : decode cX4_tryActs 116 = .ok (.aload_n 1, 1) := by decide +kernel
theorem dX4_tryActs_117 : decode cX4_tryActs 117 = .ok (.getfield 54, 3) := by decide +kernel
theorem dX4_tryActs_120 : decode cX4_tryActs 120 = .ok (.iload_n 3, 1) := by decide +kernel
theorem dX4_tryActs_121 : decode cX4_tryActs 121 = .ok (.iaload, 1) := by decide +kernel
theorem dX4_tryActs_122 : decode cX4_tryActs 122 = .ok (.aload_n 1, 1) := by decide +kernel
theorem dX4_tryActs_123 : decode cX4_tryActs 123 = .ok (.getfield 57, 3) := by decide +kernel
theorem dX4_tryActs_126 : decode cX4_tryActs 126 = .ok (.iload_n 3, 1) := by decide +kernel
theorem dX4_tryActs_127 : decode cX4_tryActs 127 = .ok (.iaload, 1) := by decide +kernel
theorem dX4_tryActs_128 : decode cX4_tryActs 128 = .ok (.invokevirtual 67, 3) := by decide +kernel
theorem dX4_tryActs_131 : decode cX4_tryActs 131 = .ok (.aload_n 0, 1) := by decide +kernel
theorem dX4_tryActs_132 : decode cX4_tryActs 132 = .ok (.getfield 34, 3) := by decide +kernel
theorem dX4_tryActs_135 : decode cX4_tryActs 135 = .ok (.aload_n 0, 1) := by decide +kernel
theorem dX4_tryActs_136 : decode cX4_tryActs 136 = .ok (.getfield 12, 3) := by decide +kernel
theorem dX4_tryActs_139 : decode cX4_tryActs 139 = .ok (.invokevirtual 42, 3) := by decide +kernel
theorem dX4_tryActs_142 : decode cX4_tryActs 142 = .ok (.aload_n 0, 1) := by decide +kernel
theorem dX4_tryActs_143 : decode cX4_tryActs 143 = .ok (.iload_n 3, 1) := by decide +kernel
theorem dX4_tryActs_144 : decode cX4_tryActs 144 = .ok (.iload 5, 2) := by decide +kernel
theorem dX4_tryActs_146 : decode cX4_tryActs 146 = .ok (.aload_n 0, 1) := by decide +kernel
theorem dX4_tryActs_147 : decode cX4_tryActs 147 = .ok (.getfield 34, 3) := by decide +kernel
theorem dX4_tryActs_150 : decode cX4_tryActs 150 = .ok (.getfield 64, 3) := by decide +kernel
theorem dX4_tryActs_153 : decode cX4_tryActs 153 = .ok (.iconst (-1), 1) := by decide +kernel
theorem dX4_tryActs_154 : decode cX4_tryActs 154 = .ok (.ixor, 1) := by decide +kernel
theorem dX4_tryActs_155 : decode cX4_tryActs 155 = .ok (.iand, 1) := by decide +kernel
theorem dX4_tryActs_156 : decode cX4_tryActs 156 = .ok (.invokevirtual 71, 3) := by decide +kernel
theorem dX4_tryActs_159 : decode cX4_tryActs 159 = .ok (.iinc 3 1, 3) := by decide +kernel
theorem dX4_tryActs_162 : decode cX4_tryActs 162 = .ok (.goto (-117), 3) := by decide +kernel
theorem dX4_tryActs_165 : decode cX4_tryActs 165 = .ok (.return_, 1) := by decide +kernel
set_option maxRecDepth 20000 in
theorem ggX4_drawActs_X1_become : GoodIn wsX4_drawActs wsX1_become := goodIn_r _ [8, 9, 10, 11, 12, 13, 14, 15, 16, 17, 18, 19, 20, 21, 22, 23, 24, 25, 26, 27, 28, 130, 131, 132, 133, 134, 135, 136, 137, 138, 139, 140, 141, 142, 143, 144, 145] (by decide +kernel) (by decide +kernel)
set_option maxRecDepth 20000 in
theorem gX4_drawActs_X1_become : GoodIn wsX4_drawActs (wsV RX4 38 RX1 yX1_become wsX1_become) := goodIn_app (goodIn_of _ (by decide +kernel)) ggX4_drawActs_X1_become
set_option maxRecDepth 20000 in
theorem ggX4_drawActs_X4_drawnKind : GoodIn wsX4_drawActs wsX4_drawnKind := goodIn_r _ [32] (by decide +kernel) (by decide +kernel)
set_option maxRecDepth 20000 in
theorem gX4_drawActs_X4_drawnKind : GoodIn wsX4_drawActs (va_wsS RX4 76 yX4_drawnKind wsX4_drawnKind) := goodIn_app (goodIn_of _ (by decide +kernel)) ggX4_drawActs_X4_drawnKind
set_option maxRecDepth 20000 in
theorem ggX4_drawActs_X4_whyNot : GoodIn wsX4_drawActs wsX4_whyNot := goodIn_r _ [36, 1, 37, 38, 39, 40, 41, 31, 42, 43, 44, 45, 46, 47, 48, 7, 49, 11, 50, 51, 52, 53, 54, 55, 56, 57, 58, 59, 60, 61, 124, 125, 126, 127, 128, 129, 130, 131, 132, 133, 134, 135, 136, 137, 138, 139, 140, 141, 142, 143, 144, 145] (by decide +kernel) (by decide +kernel)
set_option maxRecDepth 20000 in
theorem gX4_drawActs_X4_whyNot : GoodIn wsX4_drawActs (wsV RX4 60 RX4 yX4_whyNot wsX4_whyNot) := goodIn_app (goodIn_of _ (by decide +kernel)) ggX4_drawActs_X4_whyNot
set_option maxRecDepth 20000 in
theorem ggX4_drawActs_X0_shineOn : GoodIn wsX4_drawActs wsX0_shineOn := goodIn_r _ [66, 67, 68, 69, 70, 71, 72, 73, 74, 75, 16, 17, 18, 76, 77, 78, 79, 80, 81, 82, 83, 84, 7, 85, 26, 86, 87, 88, 89, 9, 25, 53, 51, 54, 90, 91, 92, 93, 94, 95, 96, 97, 98, 99, 100, 146, 147, 148, 130, 131, 132, 133, 134, 135, 136, 137, 138, 139, 140, 141, 142, 143, 144, 145] (by decide +kernel) (by decide +kernel)
set_option maxRecDepth 20000 in
theorem gX4_drawActs_X0_shineOn : GoodIn wsX4_drawActs (wsV RX4 42 RX0 yX0_shineOn wsX0_shineOn) := goodIn_app (goodIn_of _ (by decide +kernel)) ggX4_drawActs_X0_shineOn
set_option maxRecDepth 20000 in
theorem ggX4_drawActs_X4_act : GoodIn wsX4_drawActs wsX4_act := goodIn_r _ [104, 1, 37, 59, 61, 105, 106, 107, 31, 108, 45, 109, 110, 111, 72, 112, 38, 113, 83, 84, 7, 85, 26, 114, 115, 116, 117, 46, 47, 48, 49, 11, 50, 51, 52, 53, 54, 118, 119, 120, 121, 3, 122, 123, 124, 125, 126, 127, 128, 129, 130, 131, 132, 133, 134, 135, 136, 137, 138, 139, 140, 141, 142, 143, 144, 145, 146, 147, 148] (by decide +kernel) (by decide +kernel)
set_option maxRecDepth 20000 in
theorem gX4_drawActs_X4_act : GoodIn wsX4_drawActs (wsV RX4 67 RX4 yX4_act wsX4_act) := goodIn_app (goodIn_of _ (by decide +kernel)) ggX4_drawActs_X4_act
theorem dX4_drawActs_0 : decode cX4_drawActs 0 = .ok (.aload_n 0, 1) := by decide +kernel
theorem dX4_drawActs_1 : decode cX4_drawActs 1 = .ok (.getfield 12, 3) := by decide +kernel
theorem dX4_drawActs_4 : decode cX4_drawActs 4 = .ok (.aload_n 1, 1) := by decide +kernel
theorem dX4_drawActs_5 : decode cX4_drawActs 5 = .ok (.invokevirtual 38, 3) := by decide +kernel
theorem dX4_drawActs_8 : decode cX4_drawActs 8 = .ok (.iload_n 2, 1) := by decide +kernel
theorem dX4_drawActs_9 : decode cX4_drawActs 9 = .ok (.istore 4, 2) := by decide +kernel
theorem dX4_drawActs_11 : decode cX4_drawActs 11 = .ok (.iconst 0, 1) := by decide +kernel
theorem dX4_drawActs_12 : decode cX4_drawActs 12 = .ok (.istore 5, 2) := by decide +kernel
theorem dX4_drawActs_14 : decode cX4_drawActs 14 = .ok (.iload 5, 2) := by decide +kernel
theorem dX4_drawActs_16 : decode cX4_drawActs 16 = .ok (.iload_n 3, 1) := by decide +kernel
theorem dX4_drawActs_17 : decode cX4_drawActs 17 = .ok (.if_icmp .ge 101, 3) := by decide +kernel
theorem dX4_drawActs_20 : decode cX4_drawActs 20 = .ok (.bipush 75, 2) := by decide +kernel
theorem dX4_drawActs_22 : decode cX4_drawActs 22 = .ok (.iload 4, 2) := by decide +kernel
theorem dX4_drawActs_24 : decode cX4_drawActs 24 = .ok (.imul, 1) := by decide +kernel
theorem dX4_drawActs_25 : decode cX4_drawActs 25 = .ok (.bipush 74, 2) := by decide +kernel
theorem dX4_drawActs_27 : decode cX4_drawActs 27 = .ok (.iadd, 1) := by decide +kernel
theorem dX4_drawActs_28 : decode cX4_drawActs 28 = .ok (.ldc 75, 2) := by decide +kernel
theorem dX4_drawActs_30 : decode cX4_drawActs 30 = .ok (.irem, 1) := by decide +kernel
theorem dX4_drawActs_31 : decode cX4_drawActs 31 = .ok (.istore 4, 2) := by decide +kernel
theorem dX4_drawActs_33 : decode cX4_drawActs 33 = .ok (.iload 4, 2) := by decide +kernel
theorem dX4_drawActs_35 : decode cX4_drawActs 35 = .ok (.bipush 8, 2) := by decide +kernel
theorem dX4_drawActs_37 : decode cX4_drawActs 37 = .ok (.idiv, 1) := by decide +kernel
theorem dX4_drawActs_38 : decode cX4_drawActs 38 = .ok (.bipush 8, 2) := by decide +kernel
theorem dX4_drawActs_40 : decode cX4_drawActs 40 = .ok (.irem, 1) := by decide +kernel
theorem dX4_drawActs_41 : decode cX4_drawActs 41 = .ok (.invokestatic 76, 3) := by decide +kernel
theorem dX4_drawActs_44 : decode cX4_drawActs 44 = .ok (.istore 6, 2) := by decide +kernel
theorem dX4_drawActs_46 : decode cX4_drawActs 46 = .ok (.iload 4, 2) := by decide +kernel
theorem dX4_drawActs_48 : decode cX4_drawActs 48 = .ok (.bipush 64, 2) := by decide +kernel
theorem dX4_drawActs_50 : decode cX4_drawActs 50 = .ok (.idiv, 1) := by decide +kernel
theorem dX4_drawActs_51 : decode cX4_drawActs 51 = .ok (.iload 6, 2) := by decide +kernel
theorem dX4_drawActs_53 : decode cX4_drawActs 53 = .ok (.ifCond .ne 8, 3) := by decide +kernel
theorem dX4_drawActs_56 : decode cX4_drawActs 56 = .ok (.bipush 24, 2) := by decide +kernel
theorem dX4_drawActs_58 : decode cX4_drawActs 58 = .ok (.goto 5, 3) := by decide +kernel
theorem dX4_drawActs_61 : decode cX4_drawActs 61 = .ok (.bipush 10, 2) := by decide +kernel
theorem dX4_drawActs_63 : decode cX4_drawActs 63 = .ok (.irem, 1) := by decide +kernel
theorem dX4_drawActs_64 : decode cX4_drawActs 64 = .ok (.istore 7, 2) := by decide +kernel
theorem dX4_drawActs_66 : decode cX4_drawActs 66 = .ok (.aload_n 0, 1) := by decide +kernel
theorem dX4_drawActs_67 : decode cX4_drawActs 67 = .ok (.iload 6, 2) := by decide +kernel
theorem dX4_drawActs_69 : decode cX4_drawActs 69 = .ok (.iload 4, 2) := by decide +kernel
theorem dX4_drawActs_71 : decode cX4_drawActs 71 = .ok (.bipush 8, 2) := by decide +kernel
theorem dX4_drawActs_73 : decode cX4_drawActs 73 = .ok (.irem, 1) := by decide +kernel
theorem dX4_drawActs_74 : decode cX4_drawActs 74 = .ok (.iload 7, 2) := by decide +kernel
theorem dX4_drawActs_76 : decode cX4_drawActs 76 = .ok (.invokevirtual 60, 3) := by decide +kernel
theorem dX4_drawActs_79 : decode cX4_drawActs 79 = .ok (.ifCond .ne 33, 3) := by decide +kernel
theorem dX4_drawActs_82 : decode cX4_drawActs 82 = .ok (.iload 6, 2) := by decide +kernel
theorem dX4_drawActs_84 : decode cX4_drawActs 84 = .ok (.iconst 4, 1) := by decide +kernel
theorem dX4_drawActs_85 : decode cX4_drawActs 85 = .ok (.if_icmp .ne 14, 3) := by decide +kernel
theorem dX4_drawActs_88 : decode cX4_drawActs 88 = .ok (.aload_n 0, 1) := by decide +kernel
theorem dX4_drawActs_89 : decode cX4_drawActs 89 = .ok (.getfield 34, 3) := by decide +kernel
theorem dX4_drawActs_92 : decode cX4_drawActs 92 = .ok (.aload_n 0, 1) := by decide +kernel
theorem dX4_drawActs_93 : decode cX4_drawActs 93 = .ok (.getfield 12, 3) := by decide +kernel
theorem dX4_drawActs_96 : decode cX4_drawActs 96 = .ok (.invokevirtual 42, 3) := by decide +kernel
theorem dX4_drawActs_99 : decode cX4_drawActs 99 = .ok (.aload_n 0, 1) := by decide +kernel
theorem dX4_drawActs_100 : decode cX4_drawActs 100 = .ok (.iload 6, 2) := by decide +kernel
theorem dX4_drawActs_102 : decode cX4_drawActs 102 = .ok (.iload 4, 2) := by decide +kernel
theorem dX4_drawActs_104 : decode cX4_drawActs 104 = .ok (.bipush 8, 2) := by decide +kernel
theorem dX4_drawActs_106 : decode cX4_drawActs 106 = .ok (.irem, 1) := by decide +kernel
theorem dX4_drawActs_107 : decode cX4_drawActs 107 = .ok (.iload 7, 2) := by decide +kernel
theorem dX4_drawActs_109 : decode cX4_drawActs 109 = .ok (.invokevirtual 67, 3) := by decide +kernel
theorem dX4_drawActs_112 : decode cX4_drawActs 112 = .ok (.iinc 5 1, 3) := by decide +kernel
theorem dX4_drawActs_115 : decode cX4_drawActs 115 = .ok (.goto (-101), 3) := by decide +kernel
theorem dX4_drawActs_118 : decode cX4_drawActs 118 = .ok (.return_, 1) := by decide +kernel
theorem dX4_drawnKind_0 : decode cX4_drawnKind 0 = .ok (.iload_n 0, 1) := by decide +kernel
theorem dX4_drawnKind_1 : decode cX4_drawnKind 1 = .ok (.iconst 2, 1) := by decide +kernel
theorem dX4_drawnKind_2 : decode cX4_drawnKind 2 = .ok (.if_icmp .gt 5, 3) := by decide +kernel
theorem dX4_drawnKind_5 : decode cX4_drawnKind 5 = .ok (.iconst 0, 1) := by decide +kernel
theorem dX4_drawnKind_6 : decode cX4_drawnKind 6 = .ok (.ireturn, 1) := by decide +kernel
theorem dX4_drawnKind_7 : decode cX4_drawnKind 7 = .ok (.iload_n 0, 1) := by decide +kernel
theorem dX4_drawnKind_8 : decode cX4_drawnKind 8 = .ok (.iconst 3, 1) := by decide +kernel
theorem dX4_drawnKind_9 : decode cX4_drawnKind 9 = .ok (.if_icmp .ne 5, 3) := by decide +kernel
theorem dX4_drawnKind_12 : decode cX4_drawnKind 12 = .ok (.iconst 1, 1) := by decide +kernel
theorem dX4_drawnKind_13 : decode cX4_drawnKind 13 = .ok (.ireturn, 1) := by decide +kernel
theorem dX4_drawnKind_14 : decode cX4_drawnKind 14 = .ok (.iload_n 0, 1) := by decide +kernel
theorem dX4_drawnKind_15 : decode cX4_drawnKind 15 = .ok (.iconst 5, 1) := by decide +kernel
theorem dX4_drawnKind_16 : decode cX4_drawnKind 16 = .ok (.if_icmp .gt 5, 3) := by decide +kernel
theorem dX4_drawnKind_19 : decode cX4_drawnKind 19 = .ok (.iconst 2, 1) := by decide +kernel
theorem dX4_drawnKind_20 : decode cX4_drawnKind 20 = .ok (.ireturn, 1) := by decide +kernel
theorem dX4_drawnKind_21 : decode cX4_drawnKind 21 = .ok (.iload_n 0, 1) := by decide +kernel
theorem dX4_drawnKind_22 : decode cX4_drawnKind 22 = .ok (.bipush 6, 2) := by decide +kernel
theorem dX4_drawnKind_24 : decode cX4_drawnKind 24 = .ok (.if_icmp .ne 7, 3) := by decide +kernel
theorem dX4_drawnKind_27 : decode cX4_drawnKind 27 = .ok (.iconst 3, 1) := by decide +kernel
theorem dX4_drawnKind_28 : decode cX4_drawnKind 28 = .ok (.goto 4, 3) := by decide +kernel
theorem dX4_drawnKind_31 : decode cX4_drawnKind 31 = .ok (.iconst 4, 1) := by decide +kernel
theorem dX4_drawnKind_32 : decode cX4_drawnKind 32 = .ok (.ireturn, 1) := by decide +kernel
set_option maxRecDepth 20000 in
theorem ggX4_rememberDark_X7_leastOf : GoodIn wsX4_rememberDark wsX7_leastOf := goodIn_r _ [5, 6, 7, 8, 9, 10] (by decide +kernel) (by decide +kernel)
set_option maxRecDepth 20000 in
theorem gX4_rememberDark_X7_leastOf_n80 : GoodIn wsX4_rememberDark (wsX7_leastOf) := ggX4_rememberDark_X7_leastOf
theorem dX4_rememberDark_0 : decode cX4_rememberDark 0 = .ok (.aload_n 0, 1) := by decide +kernel
theorem dX4_rememberDark_1 : decode cX4_rememberDark 1 = .ok (.getfield 25, 3) := by decide +kernel
theorem dX4_rememberDark_4 : decode cX4_rememberDark 4 = .ok (.bipush (-6), 2) := by decide +kernel
theorem dX4_rememberDark_6 : decode cX4_rememberDark 6 = .ok (.if_icmp .ne 20, 3) := by decide +kernel
theorem dX4_rememberDark_9 : decode cX4_rememberDark 9 = .ok (.iload_n 2, 1) := by decide +kernel
theorem dX4_rememberDark_10 : decode cX4_rememberDark 10 = .ok (.ifCond .eq 16, 3) := by decide +kernel
theorem dX4_rememberDark_13 : decode cX4_rememberDark 13 = .ok (.aload_n 0, 1) := by decide +kernel
theorem dX4_rememberDark_14 : decode cX4_rememberDark 14 = .ok (.iload_n 1, 1) := by decide +kernel
theorem dX4_rememberDark_15 : decode cX4_rememberDark 15 = .ok (.putfield 25, 3) := by decide +kernel
theorem dX4_rememberDark_18 : decode cX4_rememberDark 18 = .ok (.aload_n 0, 1) := by decide +kernel
theorem dX4_rememberDark_19 : decode cX4_rememberDark 19 = .ok (.iload_n 2, 1) := by decide +kernel
theorem dX4_rememberDark_20 : decode cX4_rememberDark 20 = .ok (.invokestatic 80, 3) := by decide +kernel
theorem dX4_rememberDark_23 : decode cX4_rememberDark 23 = .ok (.putfield 28, 3) := by decide +kernel
theorem dX4_rememberDark_26 : decode cX4_rememberDark 26 = .ok (.return_, 1) := by decide +kernel
set_option maxRecDepth 20000 in
theorem ggX4_whyNot_X4_whyNotSing : GoodIn wsX4_whyNot wsX4_whyNotSing := goodIn_r _ [8, 1, 9, 10, 2, 11, 12, 13, 14, 15, 16, 17, 18, 19, 20, 21, 22, 30, 31, 32, 33, 34, 35, 36, 37, 38, 39, 40, 41, 42, 43, 44, 45, 46, 47, 48, 49, 50, 51] (by decide +kernel) (by decide +kernel)
set_option maxRecDepth 20000 in
theorem gX4_whyNot_X4_whyNotSing : GoodIn wsX4_whyNot (wsV RX4 83 RX4 yX4_whyNotSing wsX4_whyNotSing) := goodIn_app (goodIn_of _ (by decide +kernel)) ggX4_whyNot_X4_whyNotSing
set_option maxRecDepth 20000 in
theorem ggX4_whyNot_X1_isThere : GoodIn wsX4_whyNot wsX1_isThere := goodIn_r _ [16, 17, 18, 19, 20, 21, 22, 36, 37, 38, 39, 40, 41, 42, 43, 44, 45, 46, 47, 48, 49, 50, 51] (by decide +kernel) (by decide +kernel)
set_option maxRecDepth 20000 in
theorem gX4_whyNot_X1_isThere : GoodIn wsX4_whyNot (wsV RX4 87 RX1 yX1_isThere wsX1_isThere) := goodIn_app (goodIn_of _ (by decide +kernel)) ggX4_whyNot_X1_isThere
set_option maxRecDepth 20000 in
theorem ggX4_whyNot_X4_whyNotGo : GoodIn wsX4_whyNot wsX4_whyNotGo := goodIn_r _ [26, 1, 27, 28, 29, 12, 13, 14, 15, 16, 17, 18, 19, 20, 21, 22, 30, 31, 32, 33, 34, 35, 36, 37, 38, 39, 40, 41, 42, 43, 44, 45, 46, 47, 48, 49, 50, 51] (by decide +kernel) (by decide +kernel)
set_option maxRecDepth 20000 in
theorem gX4_whyNot_X4_whyNotGo : GoodIn wsX4_whyNot (wsV RX4 94 RX4 yX4_whyNotGo wsX4_whyNotGo) := goodIn_app (goodIn_of _ (by decide +kernel)) ggX4_whyNot_X4_whyNotGo
theorem dX4_whyNot_0 : decode cX4_whyNot 0 = .ok (.iload_n 1, 1) := by decide +kernel
theorem dX4_whyNot_1 : decode cX4_whyNot 1 = .ok (.tableswitch 103 0 4 #[35, 42, 76, 103, 83], 35) := by decide +kernel
theorem dX4_whyNot_36 : decode cX4_whyNot 36 = .ok (.aload_n 0, 1) := by decide +kernel
theorem dX4_whyNot_37 : decode cX4_whyNot 37 = .ok (.iload_n 2, 1) := by decide +kernel
theorem dX4_whyNot_38 : decode cX4_whyNot 38 = .ok (.iload_n 3, 1) := by decide +kernel
theorem dX4_whyNot_39 : decode cX4_whyNot 39 = .ok (.invokevirtual 83, 3) := by decide +kernel
theorem dX4_whyNot_42 : decode cX4_whyNot 42 = .ok (.ireturn, 1) := by decide +kernel
theorem dX4_whyNot_43 : decode cX4_whyNot 43 = .ok (.aload_n 0, 1) := by decide +kernel
theorem dX4_whyNot_44 : decode cX4_whyNot 44 = .ok (.getfield 12, 3) := by decide +kernel
theorem dX4_whyNot_47 : decode cX4_whyNot 47 = .ok (.iload_n 2, 1) := by decide +kernel
theorem dX4_whyNot_48 : decode cX4_whyNot 48 = .ok (.invokevirtual 87, 3) := by decide +kernel
theorem dX4_whyNot_51 : decode cX4_whyNot 51 = .ok (.ifCond .ne 7, 3) := by decide +kernel
theorem dX4_whyNot_54 : decode cX4_whyNot 54 = .ok (.iconst 1, 1) := by decide +kernel
theorem dX4_whyNot_55 : decode cX4_whyNot 55 = .ok (.goto 21, 3) := by decide +kernel
theorem dX4_whyNot_58 : decode cX4_whyNot 58 = .ok (.aload_n 0, 1) := by decide +kernel
theorem dX4_whyNot_59 : decode cX4_whyNot 59 = .ok (.getfield 12, 3) := by decide +kernel
theorem dX4_whyNot_62 : decode cX4_whyNot 62 = .ok (.getfield 91, 3) := by decide +kernel
theorem dX4_whyNot_65 : decode cX4_whyNot 65 = .ok (.iload_n 2, 1) := by decide +kernel
theorem dX4_whyNot_66 : decode cX4_whyNot 66 = .ok (.iaload, 1) := by decide +kernel
theorem dX4_whyNot_67 : decode cX4_whyNot 67 = .ok (.iconst (-1), 1) := by decide +kernel
theorem dX4_whyNot_68 : decode cX4_whyNot 68 = .ok (.if_icmp .ne 7, 3) := by decide +kernel
theorem dX4_whyNot_71 : decode cX4_whyNot 71 = .ok (.iconst 3, 1) := by decide +kernel
theorem dX4_whyNot_72 : decode cX4_whyNot 72 = .ok (.goto 4, 3) := by decide +kernel
theorem dX4_whyNot_75 : decode cX4_whyNot 75 = .ok (.iconst 0, 1) := by decide +kernel
theorem dX4_whyNot_76 : decode cX4_whyNot 76 = .ok (.ireturn, 1) := by decide +kernel
theorem dX4_whyNot_77 : decode cX4_whyNot 77 = .ok (.aload_n 0, 1) := by decide +kernel
theorem dX4_whyNot_78 : decode cX4_whyNot 78 = .ok (.iload_n 2, 1) := by decide +kernel
theorem dX4_whyNot_79 : decode cX4_whyNot 79 = .ok (.iload_n 3, 1) := by decide +kernel
theorem dX4_whyNot_80 : decode cX4_whyNot 80 = .ok (.invokevirtual 94, 3) := by decide +kernel
theorem dX4_whyNot_83 : decode cX4_whyNot 83 = .ok (.ireturn, 1) := by decide +kernel
theorem dX4_whyNot_84 : decode cX4_whyNot 84 = .ok (.aload_n 0, 1) := by decide +kernel
theorem dX4_whyNot_85 : decode cX4_whyNot 85 = .ok (.getfield 12, 3) := by decide +kernel
theorem dX4_whyNot_88 : decode cX4_whyNot 88 = .ok (.getfield 97, 3) := by decide +kernel
theorem dX4_whyNot_91 : decode cX4_whyNot 91 = .ok (.sipush 999, 3) := by decide +kernel
theorem dX4_whyNot_94 : decode cX4_whyNot 94 = .ok (.if_icmp .lt 8, 3) := by decide +kernel
theorem dX4_whyNot_97 : decode cX4_whyNot 97 = .ok (.bipush 7, 2) := by decide +kernel
theorem dX4_whyNot_99 : decode cX4_whyNot 99 = .ok (.goto 4, 3) := by decide +kernel
theorem dX4_whyNot_102 : decode cX4_whyNot 102 = .ok (.iconst 0, 1) := by decide +kernel
theorem dX4_whyNot_103 : decode cX4_whyNot 103 = .ok (.ireturn, 1) := by decide +kernel
theorem dX4_whyNot_104 : decode cX4_whyNot 104 = .ok (.iconst 0, 1) := by decide +kernel
theorem dX4_whyNot_105 : decode cX4_whyNot 105 = .ok (.ireturn, 1) := by decide +kernel
set_option maxRecDepth 20000 in
theorem ggX4_whyNotSing_X1_isThere : GoodIn wsX4_whyNotSing wsX1_isThere := goodIn_r _ [10, 11, 12, 13, 14, 15, 16, 23, 24, 25, 26, 27, 28, 29, 30, 31, 32, 33, 34, 35, 36, 37, 38] (by decide +kernel) (by decide +kernel)
set_option maxRecDepth 20000 in
theorem gX4_whyNotSing_X1_isThere : GoodIn wsX4_whyNotSing (wsV RX4 87 RX1 yX1_isThere wsX1_isThere) := goodIn_app (goodIn_of _ (by decide +kernel)) ggX4_whyNotSing_X1_isThere
theorem dX4_whyNotSing_0 : decode cX4_whyNotSing 0 = .ok (.aload_n 0, 1) := by decide +kernel
theorem dX4_whyNotSing_1 : decode cX4_whyNotSing 1 = .ok (.getfield 12, 3) := by decide +kernel
theorem dX4_whyNotSing_4 : decode cX4_whyNotSing 4 = .ok (.iload_n 1, 1) := by decide +kernel
theorem dX4_whyNotSing_5 : decode cX4_whyNotSing 5 = .ok (.invokevirtual 87, 3) := by decide +kernel
theorem dX4_whyNotSing_8 : decode cX4_whyNotSing 8 = .ok (.ifCond .ne 5, 3) := by decide +kernel
theorem dX4_whyNotSing_11 : decode cX4_whyNotSing 11 = .ok (.iconst 1, 1) := by decide +kernel
theorem dX4_whyNotSing_12 : decode cX4_whyNotSing 12 = .ok (.ireturn, 1) := by decide +kernel
theorem dX4_whyNotSing_13 : decode cX4_whyNotSing 13 = .ok (.iload_n 2, 1) := by decide +kernel
theorem dX4_whyNotSing_14 : decode cX4_whyNotSing 14 = .ok (.aload_n 0, 1) := by decide +kernel
theorem dX4_whyNotSing_15 : decode cX4_whyNotSing 15 = .ok (.getfield 12, 3) := by decide +kernel
theorem dX4_whyNotSing_18 : decode cX4_whyNotSing 18 = .ok (.getfield 100, 3) := by decide +kernel
theorem dX4_whyNotSing_21 : decode cX4_whyNotSing 21 = .ok (.iload_n 1, 1) := by decide +kernel
theorem dX4_whyNotSing_22 : decode cX4_whyNotSing 22 = .ok (.iaload, 1) := by decide +kernel
theorem dX4_whyNotSing_23 : decode cX4_whyNotSing 23 = .ok (.if_icmp .lt 16, 3) := by decide +kernel
theorem dX4_whyNotSing_26 : decode cX4_whyNotSing 26 = .ok (.iload_n 2, 1) := by decide +kernel
theorem dX4_whyNotSing_27 : decode cX4_whyNotSing 27 = .ok (.aload_n 0, 1) := by decide +kernel
theorem dX4_whyNotSing_28 : decode cX4_whyNotSing 28 = .ok (.getfield 12, 3) := by decide +kernel
theorem dX4_whyNotSing_31 : decode cX4_whyNotSing 31 = .ok (.getfield 103, 3) := by decide +kernel
theorem dX4_whyNotSing_34 : decode cX4_whyNotSing 34 = .ok (.iload_n 1, 1) := by decide +kernel
theorem dX4_whyNotSing_35 : decode cX4_whyNotSing 35 = .ok (.iaload, 1) := by decide +kernel
theorem dX4_whyNotSing_36 : decode cX4_whyNotSing 36 = .ok (.if_icmp .le 5, 3) := by decide +kernel
theorem dX4_whyNotSing_39 : decode cX4_whyNotSing 39 = .ok (.iconst 2, 1) := by decide +kernel
theorem dX4_whyNotSing_40 : decode cX4_whyNotSing 40 = .ok (.ireturn, 1) := by decide +kernel
theorem dX4_whyNotSing_41 : decode cX4_whyNotSing 41 = .ok (.aload_n 0, 1) := by decide +kernel
theorem dX4_whyNotSing_42 : decode cX4_whyNotSing 42 = .ok (.getfield 12, 3) := by decide +kernel
theorem dX4_whyNotSing_45 : decode cX4_whyNotSing 45 = .ok (.getfield 91, 3) := by decide +kernel
theorem dX4_whyNotSing_48 : decode cX4_whyNotSing 48 = .ok (.iload_n 1, 1) := by decide +kernel
theorem dX4_whyNotSing_49 : decode cX4_whyNotSing 49 = .ok (.iaload, 1) := by decide +kernel
theorem dX4_whyNotSing_50 : decode cX4_whyNotSing 50 = .ok (.iload_n 2, 1) := by decide +kernel
theorem dX4_whyNotSing_51 : decode cX4_whyNotSing 51 = .ok (.if_icmp .ne 5, 3) := by decide +kernel
theorem dX4_whyNotSing_54 : decode cX4_whyNotSing 54 = .ok (.iconst 3, 1) := by decide +kernel
theorem dX4_whyNotSing_55 : decode cX4_whyNotSing 55 = .ok (.ireturn, 1) := by decide +kernel
theorem dX4_whyNotSing_56 : decode cX4_whyNotSing 56 = .ok (.aload_n 0, 1) := by decide +kernel
theorem dX4_whyNotSing_57 : decode cX4_whyNotSing 57 = .ok (.getfield 12, 3) := by decide +kernel
theorem dX4_whyNotSing_60 : decode cX4_whyNotSing 60 = .ok (.getfield 106, 3) := by decide +kernel
theorem dX4_whyNotSing_63 : decode cX4_whyNotSing 63 = .ok (.iload_n 1, 1) := by decide +kernel
theorem dX4_whyNotSing_64 : decode cX4_whyNotSing 64 = .ok (.iaload, 1) := by decide +kernel
theorem dX4_whyNotSing_65 : decode cX4_whyNotSing 65 = .ok (.ifCond .ne 7, 3) := by decide +kernel
theorem dX4_whyNotSing_68 : decode cX4_whyNotSing 68 = .ok (.iconst 4, 1) := by decide +kernel
theorem dX4_whyNotSing_69 : decode cX4_whyNotSing 69 = .ok (.goto 4, 3) := by decide +kernel
theorem dX4_whyNotSing_72 : decode cX4_whyNotSing 72 = .ok (.iconst 0, 1) := by decide +kernel
theorem dX4_whyNotSing_73 : decode cX4_whyNotSing 73 = .ok (.ireturn, 1) := by decide +kernel
set_option maxRecDepth 20000 in
theorem ggX4_whyNotGo_X1_isThere : GoodIn wsX4_whyNotGo wsX1_isThere := goodIn_r _ [9, 10, 11, 12, 13, 14, 15, 22, 23, 24, 25, 26, 27, 28, 29, 30, 31, 32, 33, 34, 35, 36, 37] (by decide +kernel) (by decide +kernel)
set_option maxRecDepth 20000 in
theorem gX4_whyNotGo_X1_isThere : GoodIn wsX4_whyNotGo (wsV RX4 87 RX1 yX1_isThere wsX1_isThere) := goodIn_app (goodIn_of _ (by decide +kernel)) ggX4_whyNotGo_X1_isThere
set_option maxRecDepth 20000 in
theorem ggX4_whyNotGo_X7_has : GoodIn wsX4_whyNotGo wsX7_has := goodIn_r _ [15] (by decide +kernel) (by decide +kernel)
set_option maxRecDepth 20000 in
theorem gX4_whyNotGo_X7_has_n115 : GoodIn wsX4_whyNotGo (wsX7_has) := ggX4_whyNotGo_X7_has
theorem dX4_whyNotGo_0 : decode cX4_whyNotGo 0 = .ok (.aload_n 0, 1) := by decide +kernel
theorem dX4_whyNotGo_1 : decode cX4_whyNotGo 1 = .ok (.getfield 12, 3) := by decide +kernel
theorem dX4_whyNotGo_4 : decode cX4_whyNotGo 4 = .ok (.iload_n 1, 1) := by decide +kernel
theorem dX4_whyNotGo_5 : decode cX4_whyNotGo 5 = .ok (.invokevirtual 87, 3) := by decide +kernel
theorem dX4_whyNotGo_8 : decode cX4_whyNotGo 8 = .ok (.ifCond .ne 5, 3) := by decide +kernel
theorem dX4_whyNotGo_11 : decode cX4_whyNotGo 11 = .ok (.iconst 1, 1) := by decide +kernel
theorem dX4_whyNotGo_12 : decode cX4_whyNotGo 12 = .ok (.ireturn, 1) := by decide +kernel
theorem dX4_whyNotGo_13 : decode cX4_whyNotGo 13 = .ok (.aload_n 0, 1) := by decide +kernel
theorem dX4_whyNotGo_14 : decode cX4_whyNotGo 14 = .ok (.getfield 12, 3) := by decide +kernel
theorem dX4_whyNotGo_17 : decode cX4_whyNotGo 17 = .ok (.getfield 109, 3) := by decide +kernel
theorem dX4_whyNotGo_20 : decode cX4_whyNotGo 20 = .ok (.iload_n 1, 1) := by decide +kernel
theorem dX4_whyNotGo_21 : decode cX4_whyNotGo 21 = .ok (.iaload, 1) := by decide +kernel
theorem dX4_whyNotGo_22 : decode cX4_whyNotGo 22 = .ok (.istore_n 3, 1) := by decide +kernel
theorem dX4_whyNotGo_23 : decode cX4_whyNotGo 23 = .ok (.aload_n 0, 1) := by decide +kernel
theorem dX4_whyNotGo_24 : decode cX4_whyNotGo 24 = .ok (.getfield 12, 3) := by decide +kernel
theorem dX4_whyNotGo_27 : decode cX4_whyNotGo 27 = .ok (.getfield 112, 3) := by decide +kernel
theorem dX4_whyNotGo_30 : decode cX4_whyNotGo 30 = .ok (.iload_n 3, 1) := by decide +kernel
theorem dX4_whyNotGo_31 : decode cX4_whyNotGo 31 = .ok (.iaload, 1) := by decide +kernel
theorem dX4_whyNotGo_32 : decode cX4_whyNotGo 32 = .ok (.iload_n 2, 1) := by decide +kernel
theorem dX4_whyNotGo_33 : decode cX4_whyNotGo 33 = .ok (.invokestatic 115, 3) := by decide +kernel
theorem dX4_whyNotGo_36 : decode cX4_whyNotGo 36 = .ok (.ifCond .ne 5, 3) := by decide +kernel
theorem dX4_whyNotGo_39 : decode cX4_whyNotGo 39 = .ok (.iconst 5, 1) := by decide +kernel
theorem dX4_whyNotGo_40 : decode cX4_whyNotGo 40 = .ok (.ireturn, 1) := by decide +kernel
theorem dX4_whyNotGo_41 : decode cX4_whyNotGo 41 = .ok (.aload_n 0, 1) := by decide +kernel
theorem dX4_whyNotGo_42 : decode cX4_whyNotGo 42 = .ok (.getfield 12, 3) := by decide +kernel
theorem dX4_whyNotGo_45 : decode cX4_whyNotGo 45 = .ok (.getfield 119, 3) := by decide +kernel
theorem dX4_whyNotGo_48 : decode cX4_whyNotGo 48 = .ok (.iload_n 3, 1) := by decide +kernel
theorem dX4_whyNotGo_49 : decode cX4_whyNotGo 49 = .ok (.invokestatic 115, 3) := by decide +kernel
theorem dX4_whyNotGo_52 : decode cX4_whyNotGo 52 = .ok (.ifCond .ne 17, 3) := by decide +kernel
theorem dX4_whyNotGo_55 : decode cX4_whyNotGo 55 = .ok (.aload_n 0, 1) := by decide +kernel
theorem dX4_whyNotGo_56 : decode cX4_whyNotGo 56 = .ok (.getfield 12, 3) := by decide +kernel
theorem dX4_whyNotGo_59 : decode cX4_whyNotGo 59 = .ok (.getfield 119, 3) := by decide +kernel
theorem dX4_whyNotGo_62 : decode cX4_whyNotGo 62 = .ok (.iload_n 2, 1) := by decide +kernel
theorem dX4_whyNotGo_63 : decode cX4_whyNotGo 63 = .ok (.invokestatic 115, 3) := by decide +kernel
theorem dX4_whyNotGo_66 : decode cX4_whyNotGo 66 = .ok (.ifCond .eq 8, 3) := by decide +kernel
theorem dX4_whyNotGo_69 : decode cX4_whyNotGo 69 = .ok (.bipush 6, 2) := by decide +kernel
theorem dX4_whyNotGo_71 : decode cX4_whyNotGo 71 = .ok (.goto 4, 3) := by decide +kernel
theorem dX4_whyNotGo_74 : decode cX4_whyNotGo 74 = .ok (.iconst 0, 1) := by decide +kernel
theorem dX4_whyNotGo_75 : decode cX4_whyNotGo 75 = .ok (.ireturn, 1) := by decide +kernel
set_option maxRecDepth 20000 in
theorem ggX4_act_X4_passBeat : GoodIn wsX4_act wsX4_passBeat := goodIn_r _ [9, 1, 10, 11, 12, 13, 14, 15, 16, 17, 18, 19, 20, 21, 22, 23, 24, 25, 8, 26, 2, 27, 28, 29, 30, 31, 32, 33, 34, 35, 36, 37, 38, 39, 40, 3, 41, 42, 43, 44, 45, 46, 47, 48, 49, 50, 51, 52, 53, 54, 55, 56, 57, 58, 59, 60, 61, 62, 63, 64, 65, 66, 67, 68] (by decide +kernel) (by decide +kernel)
set_option maxRecDepth 20000 in
theorem gX4_act_X4_passBeat : GoodIn wsX4_act (wsV RX4 122 RX4 yX4_passBeat wsX4_passBeat) := goodIn_app (goodIn_of _ (by decide +kernel)) ggX4_act_X4_passBeat
theorem dX4_act_0 : decode cX4_act 0 = .ok (.iload_n 1, 1) := by decide +kernel
theorem dX4_act_1 : decode cX4_act 1 = .ok (.tableswitch 88 0 3 #[31, 44, 57, 70], 31) := by decide +kernel
theorem dX4_act_32 : decode cX4_act 32 = .ok (.aload_n 0, 1) := by decide +kernel
theorem dX4_act_33 : decode cX4_act 33 = .ok (.getfield 12, 3) := by decide +kernel
theorem dX4_act_36 : decode cX4_act 36 = .ok (.getfield 91, 3) := by decide +kernel
theorem dX4_act_39 : decode cX4_act 39 = .ok (.iload_n 2, 1) := by decide +kernel
theorem dX4_act_40 : decode cX4_act 40 = .ok (.iload_n 3, 1) := by decide +kernel
theorem dX4_act_41 : decode cX4_act 41 = .ok (.iastore, 1) := by decide +kernel
theorem dX4_act_42 : decode cX4_act 42 = .ok (.goto 51, 3) := by decide +kernel
theorem dX4_act_45 : decode cX4_act 45 = .ok (.aload_n 0, 1) := by decide +kernel
theorem dX4_act_46 : decode cX4_act 46 = .ok (.getfield 12, 3) := by decide +kernel
theorem dX4_act_49 : decode cX4_act 49 = .ok (.getfield 91, 3) := by decide +kernel
theorem dX4_act_52 : decode cX4_act 52 = .ok (.iload_n 2, 1) := by decide +kernel
theorem dX4_act_53 : decode cX4_act 53 = .ok (.iconst (-1), 1) := by decide +kernel
theorem dX4_act_54 : decode cX4_act 54 = .ok (.iastore, 1) := by decide +kernel
theorem dX4_act_55 : decode cX4_act 55 = .ok (.goto 38, 3) := by decide +kernel
theorem dX4_act_58 : decode cX4_act 58 = .ok (.aload_n 0, 1) := by decide +kernel
theorem dX4_act_59 : decode cX4_act 59 = .ok (.getfield 12, 3) := by decide +kernel
theorem dX4_act_62 : decode cX4_act 62 = .ok (.getfield 109, 3) := by decide +kernel
theorem dX4_act_65 : decode cX4_act 65 = .ok (.iload_n 2, 1) := by decide +kernel
theorem dX4_act_66 : decode cX4_act 66 = .ok (.iload_n 3, 1) := by decide +kernel
theorem dX4_act_67 : decode cX4_act 67 = .ok (.iastore, 1) := by decide +kernel
theorem dX4_act_68 : decode cX4_act 68 = .ok (.goto 25, 3) := by decide +kernel
theorem dX4_act_71 : decode cX4_act 71 = .ok (.aload_n 0, 1) := by decide +kernel
theorem dX4_act_72 : decode cX4_act 72 = .ok (.getfield 12, 3) := by decide +kernel
theorem dX4_act_75 : decode cX4_act 75 = .ok (.dup, 1) := by decide +kernel
theorem dX4_act_76 : decode cX4_act 76 = .ok (.getfield 119, 3) := by decide +kernel
theorem dX4_act_79 : decode cX4_act 79 = .ok (.iconst 1, 1) := by decide +kernel
theorem dX4_act_80 : decode cX4_act 80 = .ok (.iload_n 3, 1) := by decide +kernel
theorem dX4_act_81 : decode cX4_act 81 = .ok (.ishl, 1) := by decide +kernel
theorem dX4_act_82 : decode cX4_act 82 = .ok (.ixor, 1) := by decide +kernel
theorem dX4_act_83 : decode cX4_act 83 = .ok (.putfield 119, 3) := by decide +kernel
theorem dX4_act_86 : decode cX4_act 86 = .ok (.goto 7, 3) := by decide +kernel
theorem dX4_act_89 : decode cX4_act 89 = .ok (.aload_n 0, 1) := by decide +kernel
theorem dX4_act_90 : decode cX4_act 90 = .ok (.invokevirtual 122, 3) := by decide +kernel
theorem dX4_act_93 : decode cX4_act 93 = .ok (.return_, 1) := by decide +kernel
set_option maxRecDepth 20000 in
theorem ggX4_passBeat_X1_isSinging : GoodIn wsX4_passBeat wsX1_isSinging := goodIn_r _ [13, 14, 45, 46, 47, 48, 49, 50, 51, 52, 53, 54, 55, 56, 57, 58, 59, 60] (by decide +kernel) (by decide +kernel)
set_option maxRecDepth 20000 in
theorem gX4_passBeat_X1_isSinging : GoodIn wsX4_passBeat (wsV RX4 125 RX1 yX1_isSinging wsX1_isSinging) := goodIn_app (goodIn_of _ (by decide +kernel)) ggX4_passBeat_X1_isSinging
set_option maxRecDepth 20000 in
theorem ggX4_passBeat_X4_spendBreath : GoodIn wsX4_passBeat wsX4_spendBreath := goodIn_r _ [19, 1, 2, 20, 39, 40, 41, 42, 43, 44, 45, 46, 47, 48, 49, 50, 51, 52, 53, 54, 55, 56, 57, 58, 59, 60] (by decide +kernel) (by decide +kernel)
set_option maxRecDepth 20000 in
theorem gX4_passBeat_X4_spendBreath : GoodIn wsX4_passBeat (wsV RX4 128 RX4 yX4_spendBreath wsX4_spendBreath) := goodIn_app (goodIn_of _ (by decide +kernel)) ggX4_passBeat_X4_spendBreath
set_option maxRecDepth 20000 in
theorem ggX4_passBeat_X1_isThere : GoodIn wsX4_passBeat wsX1_isThere := goodIn_r _ [24, 25, 26, 27, 28, 29, 30, 45, 46, 47, 48, 49, 50, 51, 52, 53, 54, 55, 56, 57, 58, 59, 60] (by decide +kernel) (by decide +kernel)
set_option maxRecDepth 20000 in
theorem gX4_passBeat_X1_isThere : GoodIn wsX4_passBeat (wsV RX4 87 RX1 yX1_isThere wsX1_isThere) := goodIn_app (goodIn_of _ (by decide +kernel)) ggX4_passBeat_X1_isThere
set_option maxRecDepth 20000 in
theorem ggX4_passBeat_X4_cutCoal : GoodIn wsX4_passBeat wsX4_cutCoal := goodIn_r _ [34, 1, 35, 36, 37, 38, 39, 40, 41, 42, 43, 44, 45, 46, 47, 48, 49, 50, 51, 52, 53, 54, 55, 56, 57, 58, 59, 60, 61, 62, 63] (by decide +kernel) (by decide +kernel)
set_option maxRecDepth 20000 in
theorem gX4_passBeat_X4_cutCoal : GoodIn wsX4_passBeat (wsV RX4 132 RX4 yX4_cutCoal wsX4_cutCoal) := goodIn_app (goodIn_of _ (by decide +kernel)) ggX4_passBeat_X4_cutCoal
theorem dX4_passBeat_0 : decode cX4_passBeat 0 = .ok (.iconst 0, 1) := by decide +kernel
theorem dX4_passBeat_1 : decode cX4_passBeat 1 = .ok (.istore_n 1, 1) := by decide +kernel
theorem dX4_passBeat_2 : decode cX4_passBeat 2 = .ok (.iload_n 1, 1) := by decide +kernel
theorem dX4_passBeat_3 : decode cX4_passBeat 3 = .ok (.bipush 8, 2) := by decide +kernel
theorem dX4_passBeat_5 : decode cX4_passBeat 5 = .ok (.if_icmp .ge 76, 3) := by decide +kernel
theorem dX4_passBeat_8 : decode cX4_passBeat 8 = .ok (.aload_n 0, 1) := by decide +kernel
theorem dX4_passBeat_9 : decode cX4_passBeat 9 = .ok (.getfield 12, 3) := by decide +kernel
theorem dX4_passBeat_12 : decode cX4_passBeat 12 = .ok (.iload_n 1, 1) := by decide +kernel
theorem dX4_passBeat_13 : decode cX4_passBeat 13 = .ok (.invokevirtual 125, 3) := by decide +kernel
theorem dX4_passBeat_16 : decode cX4_passBeat 16 = .ok (.ifCond .eq 11, 3) := by decide +kernel
theorem dX4_passBeat_19 : decode cX4_passBeat 19 = .ok (.aload_n 0, 1) := by decide +kernel
theorem dX4_passBeat_20 : decode cX4_passBeat 20 = .ok (.iload_n 1, 1) := by decide +kernel
theorem dX4_passBeat_21 : decode cX4_passBeat 21 = .ok (.invokevirtual 128, 3) := by decide +kernel
theorem dX4_passBeat_24 : decode cX4_passBeat 24 = .ok (.goto 51, 3) := by decide +kernel
theorem dX4_passBeat_27 : decode cX4_passBeat 27 = .ok (.aload_n 0, 1) := by decide +kernel
theorem dX4_passBeat_28 : decode cX4_passBeat 28 = .ok (.getfield 12, 3) := by decide +kernel
theorem dX4_passBeat_31 : decode cX4_passBeat 31 = .ok (.iload_n 1, 1) := by decide +kernel
theorem dX4_passBeat_32 : decode cX4_passBeat 32 = .ok (.invokevirtual 87, 3) := by decide +kernel
theorem dX4_passBeat_35 : decode cX4_passBeat 35 = .ok (.ifCond .eq 40, 3) := by decide +kernel
theorem dX4_passBeat_38 : decode cX4_passBeat 38 = .ok (.aload_n 0, 1) := by decide +kernel
theorem dX4_passBeat_39 : decode cX4_passBeat 39 = .ok (.iload_n 1, 1) := by decide +kernel
theorem dX4_passBeat_40 : decode cX4_passBeat 40 = .ok (.invokevirtual 132, 3) := by decide +kernel
theorem dX4_passBeat_43 : decode cX4_passBeat 43 = .ok (.aload_n 0, 1) := by decide +kernel
theorem dX4_passBeat_44 : decode cX4_passBeat 44 = .ok (.getfield 12, 3) := by decide +kernel
theorem dX4_passBeat_47 : decode cX4_passBeat 47 = .ok (.getfield 106, 3) := by decide +kernel
theorem dX4_passBeat_50 : decode cX4_passBeat 50 = .ok (.iload_n 1, 1) := by decide +kernel
theorem dX4_passBeat_51 : decode cX4_passBeat 51 = .ok (.aload_n 0, 1) := by decide +kernel
theorem dX4_passBeat_52 : decode cX4_passBeat 52 = .ok (.getfield 12, 3) := by decide +kernel
theorem dX4_passBeat_55 : decode cX4_passBeat 55 = .ok (.getfield 135, 3) := by decide +kernel
theorem dX4_passBeat_58 : decode cX4_passBeat 58 = .ok (.iload_n 1, 1) := by decide +kernel
theorem dX4_passBeat_59 : decode cX4_passBeat 59 = .ok (.iaload, 1) := by decide +kernel
theorem dX4_passBeat_60 : decode cX4_passBeat 60 = .ok (.aload_n 0, 1) := by decide +kernel
theorem dX4_passBeat_61 : decode cX4_passBeat 61 = .ok (.getfield 12, 3) := by decide +kernel
theorem dX4_passBeat_64 : decode cX4_passBeat 64 = .ok (.getfield 106, 3) := by decide +kernel
theorem dX4_passBeat_67 : decode cX4_passBeat 67 = .ok (.iload_n 1, 1) := by decide +kernel
theorem dX4_passBeat_68 : decode cX4_passBeat 68 = .ok (.iaload, 1) := by decide +kernel
theorem dX4_passBeat_69 : decode cX4_passBeat 69 = .ok (.iconst 1, 1) := by decide +kernel
theorem dX4_passBeat_70 : decode cX4_passBeat 70 = .ok (.iadd, 1) := by decide +kernel
theorem dX4_passBeat_71 : decode cX4_passBeat 71 = .ok (.invokestatic 138, 3) := by decide +kernel
theorem dX4_passBeat_74 : decode cX4_passBeat 74 = .ok (.iastore, 1) := by decide +kernel
theorem dX4_passBeat_75 : decode cX4_passBeat 75 = .ok (.iinc 1 1, 3) := by decide +kernel
theorem dX4_passBeat_78 : decode cX4_passBeat 78 = .ok (.goto (-76), 3) := by decide +kernel
theorem dX4_passBeat_81 : decode cX4_passBeat 81 = .ok (.aload_n 0, 1) := by decide +kernel
theorem dX4_passBeat_82 : decode cX4_passBeat 82 = .ok (.getfield 12, 3) := by decide +kernel
theorem dX4_passBeat_85 : decode cX4_passBeat 85 = .ok (.dup, 1) := by decide +kernel
theorem dX4_passBeat_86 : decode cX4_passBeat 86 = .ok (.getfield 97, 3) := by decide +kernel
theorem dX4_passBeat_89 : decode cX4_passBeat 89 = .ok (.iconst 1, 1) := by decide +kernel
theorem dX4_passBeat_90 : decode cX4_passBeat 90 = .ok (.iadd, 1) := by decide +kernel
theorem dX4_passBeat_91 : decode cX4_passBeat 91 = .ok (.putfield 97, 3) := by decide +kernel
theorem dX4_passBeat_94 : decode cX4_passBeat 94 = .ok (.return_, 1) := by decide +kernel
theorem dX4_spendBreath_0 : decode cX4_spendBreath 0 = .ok (.aload_n 0, 1) := by decide +kernel
theorem dX4_spendBreath_1 : decode cX4_spendBreath 1 = .ok (.getfield 12, 3) := by decide +kernel
theorem dX4_spendBreath_4 : decode cX4_spendBreath 4 = .ok (.getfield 106, 3) := by decide +kernel
theorem dX4_spendBreath_7 : decode cX4_spendBreath 7 = .ok (.iload_n 1, 1) := by decide +kernel
theorem dX4_spendBreath_8 : decode cX4_spendBreath 8 = .ok (.dup2, 1) := by decide +kernel
theorem dX4_spendBreath_9 : decode cX4_spendBreath 9 = .ok (.iaload, 1) := by decide +kernel
theorem dX4_spendBreath_10 : decode cX4_spendBreath 10 = .ok (.iconst 1, 1) := by decide +kernel
theorem dX4_spendBreath_11 : decode cX4_spendBreath 11 = .ok (.isub, 1) := by decide +kernel
theorem dX4_spendBreath_12 : decode cX4_spendBreath 12 = .ok (.iastore, 1) := by decide +kernel
theorem dX4_spendBreath_13 : decode cX4_spendBreath 13 = .ok (.aload_n 0, 1) := by decide +kernel
theorem dX4_spendBreath_14 : decode cX4_spendBreath 14 = .ok (.getfield 12, 3) := by decide +kernel
theorem dX4_spendBreath_17 : decode cX4_spendBreath 17 = .ok (.getfield 106, 3) := by decide +kernel
theorem dX4_spendBreath_20 : decode cX4_spendBreath 20 = .ok (.iload_n 1, 1) := by decide +kernel
theorem dX4_spendBreath_21 : decode cX4_spendBreath 21 = .ok (.iaload, 1) := by decide +kernel
theorem dX4_spendBreath_22 : decode cX4_spendBreath 22 = .ok (.ifCond .gt 23, 3) := by decide +kernel
theorem dX4_spendBreath_25 : decode cX4_spendBreath 25 = .ok (.aload_n 0, 1) := by decide +kernel
theorem dX4_spendBreath_26 : decode cX4_spendBreath 26 = .ok (.getfield 12, 3) := by decide +kernel
theorem dX4_spendBreath_29 : decode cX4_spendBreath 29 = .ok (.getfield 106, 3) := by decide +kernel
theorem dX4_spendBreath_32 : decode cX4_spendBreath 32 = .ok (.iload_n 1, 1) := by decide +kernel
theorem dX4_spendBreath_33 : decode cX4_spendBreath 33 = .ok (.iconst 0, 1) := by decide +kernel
theorem dX4_spendBreath_34 : decode cX4_spendBreath 34 = .ok (.iastore, 1) := by decide +kernel
theorem dX4_spendBreath_35 : decode cX4_spendBreath 35 = .ok (.aload_n 0, 1) := by decide +kernel
theorem dX4_spendBreath_36 : decode cX4_spendBreath 36 = .ok (.getfield 12, 3) := by decide +kernel
theorem dX4_spendBreath_39 : decode cX4_spendBreath 39 = .ok (.getfield 91, 3) := by decide +kernel
theorem dX4_spendBreath_42 : decode cX4_spendBreath 42 = .ok (.iload_n 1, 1) := by decide +kernel
theorem dX4_spendBreath_43 : decode cX4_spendBreath 43 = .ok (.iconst (-1), 1) := by decide +kernel
theorem dX4_spendBreath_44 : decode cX4_spendBreath 44 = .ok (.iastore, 1) := by decide +kernel
theorem dX4_spendBreath_45 : decode cX4_spendBreath 45 = .ok (.return_, 1) := by decide +kernel
theorem dX4_cutCoal_0 : decode cX4_cutCoal 0 = .ok (.aload_n 0, 1) := by decide +kernel
theorem dX4_cutCoal_1 : decode cX4_cutCoal 1 = .ok (.getfield 12, 3) := by decide +kernel
theorem dX4_cutCoal_4 : decode cX4_cutCoal 4 = .ok (.getfield 109, 3) := by decide +kernel
theorem dX4_cutCoal_7 : decode cX4_cutCoal 7 = .ok (.iload_n 1, 1) := by decide +kernel
theorem dX4_cutCoal_8 : decode cX4_cutCoal 8 = .ok (.iaload, 1) := by decide +kernel
theorem dX4_cutCoal_9 : decode cX4_cutCoal 9 = .ok (.istore_n 2, 1) := by decide +kernel
theorem dX4_cutCoal_10 : decode cX4_cutCoal 10 = .ok (.aload_n 0, 1) := by decide +kernel
theorem dX4_cutCoal_11 : decode cX4_cutCoal 11 = .ok (.getfield 34, 3) := by decide +kernel
theorem dX4_cutCoal_14 : decode cX4_cutCoal 14 = .ok (.getfield 143, 3) := by decide +kernel
theorem dX4_cutCoal_17 : decode cX4_cutCoal 17 = .ok (.iload_n 2, 1) := by decide +kernel
theorem dX4_cutCoal_18 : decode cX4_cutCoal 18 = .ok (.iaload, 1) := by decide +kernel
theorem dX4_cutCoal_19 : decode cX4_cutCoal 19 = .ok (.istore_n 3, 1) := by decide +kernel
theorem dX4_cutCoal_20 : decode cX4_cutCoal 20 = .ok (.aload_n 0, 1) := by decide +kernel
theorem dX4_cutCoal_21 : decode cX4_cutCoal 21 = .ok (.getfield 12, 3) := by decide +kernel
theorem dX4_cutCoal_24 : decode cX4_cutCoal 24 = .ok (.getfield 146, 3) := by decide +kernel
theorem dX4_cutCoal_27 : decode cX4_cutCoal 27 = .ok (.iload_n 2, 1) := by decide +kernel
theorem dX4_cutCoal_28 : decode cX4_cutCoal 28 = .ok (.dup2, 1) := by decide +kernel
theorem dX4_cutCoal_29 : decode cX4_cutCoal 29 = .ok (.iaload, 1) := by decide +kernel
theorem dX4_cutCoal_30 : decode cX4_cutCoal 30 = .ok (.iload_n 3, 1) := by decide +kernel
theorem dX4_cutCoal_31 : decode cX4_cutCoal 31 = .ok (.bipush 8, 2) := by decide +kernel
theorem dX4_cutCoal_33 : decode cX4_cutCoal 33 = .ok (.if_icmp .le 7, 3) := by decide +kernel
theorem dX4_cutCoal_36 : decode cX4_cutCoal 36 = .ok (.iconst 2, 1) := by decide +kernel
theorem dX4_cutCoal_37 : decode cX4_cutCoal 37 = .ok (.goto 12, 3) := by decide +kernel
theorem dX4_cutCoal_40 : decode cX4_cutCoal 40 = .ok (.iload_n 3, 1) := by decide +kernel
theorem dX4_cutCoal_41 : decode cX4_cutCoal 41 = .ok (.ifCond .le 7, 3) := by decide +kernel
theorem dX4_cutCoal_44 : decode cX4_cutCoal 44 = .ok (.iconst 1, 1) := by decide +kernel
theorem dX4_cutCoal_45 : decode cX4_cutCoal 45 = .ok (.goto 4, 3) := by decide +kernel
theorem dX4_cutCoal_48 : decode cX4_cutCoal 48 = .ok (.iconst 0, 1) := by decide +kernel
theorem dX4_cutCoal_49 : decode cX4_cutCoal 49 = .ok (.iadd, 1) := by decide +kernel
theorem dX4_cutCoal_50 : decode cX4_cutCoal 50 = .ok (.iastore, 1) := by decide +kernel
theorem dX4_cutCoal_51 : decode cX4_cutCoal 51 = .ok (.return_, 1) := by decide +kernel
theorem dX5_init_0 : decode cX5_init 0 = .ok (.aload_n 0, 1) := by decide +kernel
theorem dX5_init_1 : decode cX5_init 1 = .ok (.invokespecial 3, 3) := by decide +kernel
theorem dX5_init_4 : decode cX5_init 4 = .ok (.aload_n 0, 1) := by decide +kernel
theorem dX5_init_5 : decode cX5_init 5 = .ok (.iconst 3, 1) := by decide +kernel
theorem dX5_init_6 : decode cX5_init 6 = .ok (.newarray .int, 2) := by decide +kernel
theorem dX5_init_8 : decode cX5_init 8 = .ok (.putfield 11, 3) := by decide +kernel
theorem dX5_init_11 : decode cX5_init 11 = .ok (.aload_n 0, 1) := by decide +kernel
theorem dX5_init_12 : decode cX5_init 12 = .ok (.iconst 3, 1) := by decide +kernel
theorem dX5_init_13 : decode cX5_init 13 = .ok (.newarray .int, 2) := by decide +kernel
theorem dX5_init_15 : decode cX5_init 15 = .ok (.putfield 15, 3) := by decide +kernel
theorem dX5_init_18 : decode cX5_init 18 = .ok (.aload_n 0, 1) := by decide +kernel
theorem dX5_init_19 : decode cX5_init 19 = .ok (.sipush 300, 3) := by decide +kernel
theorem dX5_init_22 : decode cX5_init 22 = .ok (.newarray .int, 2) := by decide +kernel
theorem dX5_init_24 : decode cX5_init 24 = .ok (.putfield 18, 3) := by decide +kernel
theorem dX5_init_27 : decode cX5_init 27 = .ok (.aload_n 0, 1) := by decide +kernel
theorem dX5_init_28 : decode cX5_init 28 = .ok (.sipush 300, 3) := by decide +kernel
theorem dX5_init_31 : decode cX5_init 31 = .ok (.newarray .int, 2) := by decide +kernel
theorem dX5_init_33 : decode cX5_init 33 = .ok (.putfield 21, 3) := by decide +kernel
theorem dX5_init_36 : decode cX5_init 36 = .ok (.return_, 1) := by decide +kernel
set_option maxRecDepth 20000 in
theorem ggX5_settle_X5_meetStates : GoodIn wsX5_settle wsX5_meetStates := goodIn_r _ [7, 8, 9, 10, 11, 12, 13, 14, 15, 16, 17, 6, 18, 19, 20, 21, 22, 1, 23, 24, 25, 26, 27, 28, 29, 30, 2, 31, 32, 33, 34, 35, 36, 48, 49, 50, 51, 52] (by decide +kernel) (by decide +kernel)
set_option maxRecDepth 20000 in
theorem gX5_settle_X5_meetStates : GoodIn wsX5_settle (wsV RX5 24 RX5 yX5_meetStates wsX5_meetStates) := goodIn_app (goodIn_of _ (by decide +kernel)) ggX5_settle_X5_meetStates
set_option maxRecDepth 20000 in
theorem ggX5_settle_X5_lookFurther : GoodIn wsX5_settle wsX5_lookFurther := goodIn_r _ [40, 9, 10, 8, 41, 42, 43, 6, 44, 1, 23, 24, 25, 26, 45, 46, 47, 19, 20, 21, 22, 27, 28, 29, 30, 2, 31, 32, 33, 34, 35, 36, 48, 49, 50, 51, 52] (by decide +kernel) (by decide +kernel)
set_option maxRecDepth 20000 in
theorem gX5_settle_X5_lookFurther : GoodIn wsX5_settle (wsV RX5 27 RX5 yX5_lookFurther wsX5_lookFurther) := goodIn_app (goodIn_of _ (by decide +kernel)) ggX5_settle_X5_lookFurther
theorem dX5_settle_0 : decode cX5_settle 0 = .ok (.aload_n 0, 1) := by decide +kernel
theorem dX5_settle_1 : decode cX5_settle 1 = .ok (.getfield 11, 3) := by decide +kernel
theorem dX5_settle_4 : decode cX5_settle 4 = .ok (.iconst 0, 1) := by decide +kernel
theorem dX5_settle_5 : decode cX5_settle 5 = .ok (.iload_n 1, 1) := by decide +kernel
theorem dX5_settle_6 : decode cX5_settle 6 = .ok (.bipush 100, 2) := by decide +kernel
theorem dX5_settle_8 : decode cX5_settle 8 = .ok (.idiv, 1) := by decide +kernel
theorem dX5_settle_9 : decode cX5_settle 9 = .ok (.iastore, 1) := by decide +kernel
theorem dX5_settle_10 : decode cX5_settle 10 = .ok (.aload_n 0, 1) := by decide +kernel
theorem dX5_settle_11 : decode cX5_settle 11 = .ok (.getfield 11, 3) := by decide +kernel
theorem dX5_settle_14 : decode cX5_settle 14 = .ok (.iconst 1, 1) := by decide +kernel
theorem dX5_settle_15 : decode cX5_settle 15 = .ok (.iload_n 1, 1) := by decide +kernel
theorem dX5_settle_16 : decode cX5_settle 16 = .ok (.bipush 10, 2) := by decide +kernel
theorem dX5_settle_18 : decode cX5_settle 18 = .ok (.idiv, 1) := by decide +kernel
theorem dX5_settle_19 : decode cX5_settle 19 = .ok (.bipush 10, 2) := by decide +kernel
theorem dX5_settle_21 : decode cX5_settle 21 = .ok (.irem, 1) := by decide +kernel
theorem dX5_settle_22 : decode cX5_settle 22 = .ok (.iastore, 1) := by decide +kernel
theorem dX5_settle_23 : decode cX5_settle 23 = .ok (.aload_n 0, 1) := by decide +kernel
theorem dX5_settle_24 : decode cX5_settle 24 = .ok (.getfield 11, 3) := by decide +kernel
theorem dX5_settle_27 : decode cX5_settle 27 = .ok (.iconst 2, 1) := by decide +kernel
theorem dX5_settle_28 : decode cX5_settle 28 = .ok (.iload_n 1, 1) := by decide +kernel
theorem dX5_settle_29 : decode cX5_settle 29 = .ok (.bipush 10, 2) := by decide +kernel
theorem dX5_settle_31 : decode cX5_settle 31 = .ok (.irem, 1) := by decide +kernel
theorem dX5_settle_32 : decode cX5_settle 32 = .ok (.iastore, 1) := by decide +kernel
theorem dX5_settle_33 : decode cX5_settle 33 = .ok (.aload_n 0, 1) := by decide +kernel
theorem dX5_settle_34 : decode cX5_settle 34 = .ok (.getfield 15, 3) := by decide +kernel
theorem dX5_settle_37 : decode cX5_settle 37 = .ok (.iconst 0, 1) := by decide +kernel
theorem dX5_settle_38 : decode cX5_settle 38 = .ok (.iload_n 2, 1) := by decide +kernel
theorem dX5_settle_39 : decode cX5_settle 39 = .ok (.bipush 100, 2) := by decide +kernel
theorem dX5_settle_41 : decode cX5_settle 41 = .ok (.idiv, 1) := by decide +kernel
theorem dX5_settle_42 : decode cX5_settle 42 = .ok (.iastore, 1) := by decide +kernel
theorem dX5_settle_43 : decode cX5_settle 43 = .ok (.aload_n 0, 1) := by decide +kernel
theorem dX5_settle_44 : decode cX5_settle 44 = .ok (.getfield 15, 3) := by decide +kernel
theorem dX5_settle_47 : decode cX5_settle 47 = .ok (.iconst 1, 1) := by decide +kernel
theorem dX5_settle_48 : decode cX5_settle 48 = .ok (.iload_n 2, 1) := by decide +kernel
theorem dX5_settle_49 : decode cX5_settle 49 = .ok (.bipush 10, 2) := by decide +kernel
theorem dX5_settle_51 : decode cX5_settle 51 = .ok (.idiv, 1) := by decide +kernel
theorem dX5_settle_52 : decode cX5_settle 52 = .ok (.bipush 10, 2) := by decide +kernel
theorem dX5_settle_54 : decode cX5_settle 54 = .ok (.irem, 1) := by decide +kernel
theorem dX5_settle_55 : decode cX5_settle 55 = .ok (.iastore, 1) := by decide +kernel
theorem dX5_settle_56 : decode cX5_settle 56 = .ok (.aload_n 0, 1) := by decide +kernel
theorem dX5_settle_57 : decode cX5_settle 57 = .ok (.getfield 15, 3) := by decide +kernel
theorem dX5_settle_60 : decode cX5_settle 60 = .ok (.iconst 2, 1) := by decide +kernel
theorem dX5_settle_61 : decode cX5_settle 61 = .ok (.iload_n 2, 1) := by decide +kernel
theorem dX5_settle_62 : decode cX5_settle 62 = .ok (.bipush 10, 2) := by decide +kernel
theorem dX5_settle_64 : decode cX5_settle 64 = .ok (.irem, 1) := by decide +kernel
theorem dX5_settle_65 : decode cX5_settle 65 = .ok (.iastore, 1) := by decide +kernel
theorem dX5_settle_66 : decode cX5_settle 66 = .ok (.aload_n 0, 1) := by decide +kernel
theorem dX5_settle_67 : decode cX5_settle 67 = .ok (.invokevirtual 24, 3) := by decide +kernel
theorem dX5_settle_70 : decode cX5_settle 70 = .ok (.iconst 1, 1) := by decide +kernel
theorem dX5_settle_71 : decode cX5_settle 71 = .ok (.istore_n 3, 1) := by decide +kernel
theorem dX5_settle_72 : decode cX5_settle 72 = .ok (.iconst 0, 1) := by decide +kernel
theorem dX5_settle_73 : decode cX5_settle 73 = .ok (.istore 4, 2) := by decide +kernel
theorem dX5_settle_75 : decode cX5_settle 75 = .ok (.iload 4, 2) := by decide +kernel
theorem dX5_settle_77 : decode cX5_settle 77 = .ok (.bipush 99, 2) := by decide +kernel
theorem dX5_settle_79 : decode cX5_settle 79 = .ok (.if_icmp .gt 18, 3) := by decide +kernel
theorem dX5_settle_82 : decode cX5_settle 82 = .ok (.iload_n 3, 1) := by decide +kernel
theorem dX5_settle_83 : decode cX5_settle 83 = .ok (.ifCond .eq 14, 3) := by decide +kernel
theorem dX5_settle_86 : decode cX5_settle 86 = .ok (.aload_n 0, 1) := by decide +kernel
theorem dX5_settle_87 : decode cX5_settle 87 = .ok (.invokevirtual 27, 3) := by decide +kernel
theorem dX5_settle_90 : decode cX5_settle 90 = .ok (.istore_n 3, 1) := by decide +kernel
theorem dX5_settle_91 : decode cX5_settle 91 = .ok (.iinc 4 1, 3) := by decide +kernel
theorem dX5_settle_94 : decode cX5_settle 94 = .ok (.goto (-19), 3) := by decide +kernel
theorem dX5_settle_97 : decode cX5_settle 97 = .ok (.return_, 1) := by decide +kernel
theorem dX5_beatsFrom_0 : decode cX5_beatsFrom 0 = .ok (.bipush 99, 2) := by decide +kernel
theorem dX5_beatsFrom_2 : decode cX5_beatsFrom 2 = .ok (.aload_n 0, 1) := by decide +kernel
theorem dX5_beatsFrom_3 : decode cX5_beatsFrom 3 = .ok (.getfield 11, 3) := by decide +kernel
theorem dX5_beatsFrom_6 : decode cX5_beatsFrom 6 = .ok (.iload_n 1, 1) := by decide +kernel
theorem dX5_beatsFrom_7 : decode cX5_beatsFrom 7 = .ok (.iaload, 1) := by decide +kernel
theorem dX5_beatsFrom_8 : decode cX5_beatsFrom 8 = .ok (.aload_n 0, 1) := by decide +kernel
theorem dX5_beatsFrom_9 : decode cX5_beatsFrom 9 = .ok (.getfield 18, 3) := by decide +kernel
theorem dX5_beatsFrom_12 : decode cX5_beatsFrom 12 = .ok (.bipush 100, 2) := by decide +kernel
theorem dX5_beatsFrom_14 : decode cX5_beatsFrom 14 = .ok (.iload_n 1, 1) := by decide +kernel
theorem dX5_beatsFrom_15 : decode cX5_beatsFrom 15 = .ok (.imul, 1) := by decide +kernel
theorem dX5_beatsFrom_16 : decode cX5_beatsFrom 16 = .ok (.iaload, 1) := by decide +kernel
theorem dX5_beatsFrom_17 : decode cX5_beatsFrom 17 = .ok (.iadd, 1) := by decide +kernel
theorem dX5_beatsFrom_18 : decode cX5_beatsFrom 18 = .ok (.invokestatic 31, 3) := by decide +kernel
theorem dX5_beatsFrom_21 : decode cX5_beatsFrom 21 = .ok (.ireturn, 1) := by decide +kernel
set_option maxRecDepth 20000 in
theorem ggX5_bestFirst_X5_beatsFrom : GoodIn wsX5_bestFirst wsX5_beatsFrom := goodIn_r _ [5, 6, 7, 8, 9, 10, 11, 12, 13, 14, 15, 16] (by decide +kernel) (by decide +kernel)
set_option maxRecDepth 20000 in
theorem gX5_bestFirst_X5_beatsFrom : GoodIn wsX5_bestFirst (wsV RX5 37 RX5 yX5_beatsFrom wsX5_beatsFrom) := goodIn_app (goodIn_of _ (by decide +kernel)) ggX5_bestFirst_X5_beatsFrom
theorem dX5_bestFirst_0 : decode cX5_bestFirst 0 = .ok (.iconst 0, 1) := by decide +kernel
theorem dX5_bestFirst_1 : decode cX5_bestFirst 1 = .ok (.istore_n 1, 1) := by decide +kernel
theorem dX5_bestFirst_2 : decode cX5_bestFirst 2 = .ok (.iconst 1, 1) := by decide +kernel
theorem dX5_bestFirst_3 : decode cX5_bestFirst 3 = .ok (.istore_n 2, 1) := by decide +kernel
theorem dX5_bestFirst_4 : decode cX5_bestFirst 4 = .ok (.iload_n 2, 1) := by decide +kernel
theorem dX5_bestFirst_5 : decode cX5_bestFirst 5 = .ok (.iconst 3, 1) := by decide +kernel
theorem dX5_bestFirst_6 : decode cX5_bestFirst 6 = .ok (.if_icmp .ge 24, 3) := by decide +kernel
theorem dX5_bestFirst_9 : decode cX5_bestFirst 9 = .ok (.aload_n 0, 1) := by decide +kernel
theorem dX5_bestFirst_10 : decode cX5_bestFirst 10 = .ok (.iload_n 2, 1) := by decide +kernel
theorem dX5_bestFirst_11 : decode cX5_bestFirst 11 = .ok (.invokevirtual 37, 3) := by decide +kernel
theorem dX5_bestFirst_14 : decode cX5_bestFirst 14 = .ok (.aload_n 0, 1) := by decide +kernel
theorem dX5_bestFirst_15 : decode cX5_bestFirst 15 = .ok (.iload_n 1, 1) := by decide +kernel
theorem dX5_bestFirst_16 : decode cX5_bestFirst 16 = .ok (.invokevirtual 37, 3) := by decide +kernel
theorem dX5_bestFirst_19 : decode cX5_bestFirst 19 = .ok (.if_icmp .le 5, 3) := by decide +kernel
theorem dX5_bestFirst_22 : decode cX5_bestFirst 22 = .ok (.iload_n 2, 1) := by decide +kernel
theorem dX5_bestFirst_23 : decode cX5_bestFirst 23 = .ok (.istore_n 1, 1) := by decide +kernel
theorem dX5_bestFirst_24 : decode cX5_bestFirst 24 = .ok (.iinc 2 1, 3) := by decide +kernel
theorem dX5_bestFirst_27 : decode cX5_bestFirst 27 = .ok (.goto (-23), 3) := by decide +kernel
theorem dX5_bestFirst_30 : decode cX5_bestFirst 30 = .ok (.iload_n 1, 1) := by decide +kernel
theorem dX5_bestFirst_31 : decode cX5_bestFirst 31 = .ok (.ireturn, 1) := by decide +kernel
set_option maxRecDepth 20000 in
theorem ggX5_meetStates_J7_fill_53178 : GoodIn wsX5_meetStates wsJ7_fill_53178 := goodIn_r _ [7] (by decide +kernel) (by decide +kernel)
set_option maxRecDepth 20000 in
theorem gX5_meetStates_J7_fill_53178 : GoodIn wsX5_meetStates (va_wsS RX5 41 yJ7_fill_53178 wsJ7_fill_53178) := goodIn_app (goodIn_of _ (by decide +kernel)) ggX5_meetStates_J7_fill_53178
set_option maxRecDepth 20000 in
theorem ggX5_meetStates_X5_meet : GoodIn wsX5_meetStates wsX5_meet := goodIn_r _ [12, 1, 2, 3, 33, 34, 35, 36, 37] (by decide +kernel) (by decide +kernel)
set_option maxRecDepth 20000 in
theorem gX5_meetStates_X5_meet : GoodIn wsX5_meetStates (wsV RX5 51 RX5 yX5_meet wsX5_meet) := goodIn_app (goodIn_of _ (by decide +kernel)) ggX5_meetStates_X5_meet
set_option maxRecDepth 20000 in
theorem ggX5_meetStates_X5_stateBehind : GoodIn wsX5_meetStates wsX5_stateBehind := goodIn_r _ [16, 17, 18, 19, 20, 21, 22, 23, 24, 11, 25, 26, 27, 28, 29, 30, 31, 32, 33, 34, 35, 36, 37] (by decide +kernel) (by decide +kernel)
set_option maxRecDepth 20000 in
theorem gX5_meetStates_X5_stateBehind : GoodIn wsX5_meetStates (wsV RX5 55 RX5 yX5_stateBehind wsX5_stateBehind) := goodIn_app (goodIn_of _ (by decide +kernel)) ggX5_meetStates_X5_stateBehind
theorem dX5_meetStates_0 : decode cX5_meetStates 0 = .ok (.aload_n 0, 1) := by decide +kernel
theorem dX5_meetStates_1 : decode cX5_meetStates 1 = .ok (.getfield 18, 3) := by decide +kernel
theorem dX5_meetStates_4 : decode cX5_meetStates 4 = .ok (.bipush (-6), 2) := by decide +kernel
theorem dX5_meetStates_6 : decode cX5_meetStates 6 = .ok (.invokestatic 41, 3) := by decide +kernel
theorem dX5_meetStates_9 : decode cX5_meetStates 9 = .ok (.aload_n 0, 1) := by decide +kernel
theorem dX5_meetStates_10 : decode cX5_meetStates 10 = .ok (.iconst 0, 1) := by decide +kernel
theorem dX5_meetStates_11 : decode cX5_meetStates 11 = .ok (.putfield 47, 3) := by decide +kernel
theorem dX5_meetStates_14 : decode cX5_meetStates 14 = .ok (.iconst 0, 1) := by decide +kernel
theorem dX5_meetStates_15 : decode cX5_meetStates 15 = .ok (.istore_n 1, 1) := by decide +kernel
theorem dX5_meetStates_16 : decode cX5_meetStates 16 = .ok (.iload_n 1, 1) := by decide +kernel
theorem dX5_meetStates_17 : decode cX5_meetStates 17 = .ok (.iconst 3, 1) := by decide +kernel
theorem dX5_meetStates_18 : decode cX5_meetStates 18 = .ok (.if_icmp .ge 17, 3) := by decide +kernel
theorem dX5_meetStates_21 : decode cX5_meetStates 21 = .ok (.aload_n 0, 1) := by decide +kernel
theorem dX5_meetStates_22 : decode cX5_meetStates 22 = .ok (.bipush 100, 2) := by decide +kernel
theorem dX5_meetStates_24 : decode cX5_meetStates 24 = .ok (.iload_n 1, 1) := by decide +kernel
theorem dX5_meetStates_25 : decode cX5_meetStates 25 = .ok (.imul, 1) := by decide +kernel
theorem dX5_meetStates_26 : decode cX5_meetStates 26 = .ok (.invokevirtual 51, 3) := by decide +kernel
theorem dX5_meetStates_29 : decode cX5_meetStates 29 = .ok (.iinc 1 1, 3) := by decide +kernel
theorem dX5_meetStates_32 : decode cX5_meetStates 32 = .ok (.goto (-16), 3) := by decide +kernel
theorem dX5_meetStates_35 : decode cX5_meetStates 35 = .ok (.iconst 0, 1) := by decide +kernel
theorem dX5_meetStates_36 : decode cX5_meetStates 36 = .ok (.istore_n 1, 1) := by decide +kernel
theorem dX5_meetStates_37 : decode cX5_meetStates 37 = .ok (.iload_n 1, 1) := by decide +kernel
theorem dX5_meetStates_38 : decode cX5_meetStates 38 = .ok (.aload_n 0, 1) := by decide +kernel
theorem dX5_meetStates_39 : decode cX5_meetStates 39 = .ok (.getfield 47, 3) := by decide +kernel
theorem dX5_meetStates_42 : decode cX5_meetStates 42 = .ok (.if_icmp .ge 44, 3) := by decide +kernel
theorem dX5_meetStates_45 : decode cX5_meetStates 45 = .ok (.iload_n 1, 1) := by decide +kernel
theorem dX5_meetStates_46 : decode cX5_meetStates 46 = .ok (.sipush 300, 3) := by decide +kernel
theorem dX5_meetStates_49 : decode cX5_meetStates 49 = .ok (.if_icmp .ge 37, 3) := by decide +kernel
theorem dX5_meetStates_52 : decode cX5_meetStates 52 = .ok (.iconst 0, 1) := by decide +kernel
theorem dX5_meetStates_53 : decode cX5_meetStates 53 = .ok (.istore_n 2, 1) := by decide +kernel
theorem dX5_meetStates_54 : decode cX5_meetStates 54 = .ok (.iload_n 2, 1) := by decide +kernel
theorem dX5_meetStates_55 : decode cX5_meetStates 55 = .ok (.iconst 3, 1) := by decide +kernel
theorem dX5_meetStates_56 : decode cX5_meetStates 56 = .ok (.if_icmp .ge 24, 3) := by decide +kernel
theorem dX5_meetStates_59 : decode cX5_meetStates 59 = .ok (.aload_n 0, 1) := by decide +kernel
theorem dX5_meetStates_60 : decode cX5_meetStates 60 = .ok (.aload_n 0, 1) := by decide +kernel
theorem dX5_meetStates_61 : decode cX5_meetStates 61 = .ok (.aload_n 0, 1) := by decide +kernel
theorem dX5_meetStates_62 : decode cX5_meetStates 62 = .ok (.getfield 21, 3) := by decide +kernel
theorem dX5_meetStates_65 : decode cX5_meetStates 65 = .ok (.iload_n 1, 1) := by decide +kernel
theorem dX5_meetStates_66 : decode cX5_meetStates 66 = .ok (.iaload, 1) := by decide +kernel
theorem dX5_meetStates_67 : decode cX5_meetStates 67 = .ok (.iload_n 2, 1) := by decide +kernel
theorem dX5_meetStates_68 : decode cX5_meetStates 68 = .ok (.invokevirtual 55, 3) := by decide +kernel
theorem dX5_meetStates_71 : decode cX5_meetStates 71 = .ok (.invokevirtual 51, 3) := by decide +kernel
theorem dX5_meetStates_74 : decode cX5_meetStates 74 = .ok (.iinc 2 1, 3) := by decide +kernel
theorem dX5_meetStates_77 : decode cX5_meetStates 77 = .ok (.goto (-23), 3) := by decide +kernel
theorem dX5_meetStates_80 : decode cX5_meetStates 80 = .ok (.iinc 1 1, 3) := by decide +kernel
theorem dX5_meetStates_83 : decode cX5_meetStates 83 = .ok (.goto (-46), 3) := by decide +kernel
theorem dX5_meetStates_86 : decode cX5_meetStates 86 = .ok (.return_, 1) := by decide +kernel
theorem dX5_meet_0 : decode cX5_meet 0 = .ok (.iload_n 1, 1) := by decide +kernel
theorem dX5_meet_1 : decode cX5_meet 1 = .ok (.ifCond .lt 58, 3) := by decide +kernel
theorem dX5_meet_4 : decode cX5_meet 4 = .ok (.iload_n 1, 1) := by decide +kernel
theorem dX5_meet_5 : decode cX5_meet 5 = .ok (.sipush 300, 3) := by decide +kernel
theorem dX5_meet_8 : decode cX5_meet 8 = .ok (.if_icmp .ge 51, 3) := by decide +kernel
theorem dX5_meet_11 : decode cX5_meet 11 = .ok (.aload_n 0, 1) := by decide +kernel
theorem dX5_meet_12 : decode cX5_meet 12 = .ok (.getfield 18, 3) := by decide +kernel
theorem dX5_meet_15 : decode cX5_meet 15 = .ok (.iload_n 1, 1) := by decide +kernel
theorem dX5_meet_16 : decode cX5_meet 16 = .ok (.iaload, 1) := by decide +kernel
theorem dX5_meet_17 : decode cX5_meet 17 = .ok (.bipush (-6), 2) := by decide +kernel
theorem dX5_meet_19 : decode cX5_meet 19 = .ok (.if_icmp .ne 40, 3) := by decide +kernel
theorem dX5_meet_22 : decode cX5_meet 22 = .ok (.aload_n 0, 1) := by decide +kernel
theorem dX5_meet_23 : decode cX5_meet 23 = .ok (.getfield 47, 3) := by decide +kernel
theorem dX5_meet_26 : decode cX5_meet 26 = .ok (.sipush 300, 3) := by decide +kernel
theorem dX5_meet_29 : decode cX5_meet 29 = .ok (.if_icmp .ge 30, 3) := by decide +kernel
theorem dX5_meet_32 : decode cX5_meet 32 = .ok (.aload_n 0, 1) := by decide +kernel
theorem dX5_meet_33 : decode cX5_meet 33 = .ok (.getfield 18, 3) := by decide +kernel
theorem dX5_meet_36 : decode cX5_meet 36 = .ok (.iload_n 1, 1) := by decide +kernel
theorem dX5_meet_37 : decode cX5_meet 37 = .ok (.iconst 0, 1) := by decide +kernel
theorem dX5_meet_38 : decode cX5_meet 38 = .ok (.iastore, 1) := by decide +kernel
theorem dX5_meet_39 : decode cX5_meet 39 = .ok (.aload_n 0, 1) := by decide +kernel
theorem dX5_meet_40 : decode cX5_meet 40 = .ok (.getfield 21, 3) := by decide +kernel
theorem dX5_meet_43 : decode cX5_meet 43 = .ok (.aload_n 0, 1) := by decide +kernel
theorem dX5_meet_44 : decode cX5_meet 44 = .ok (.getfield 47, 3) := by decide +kernel
theorem dX5_meet_47 : decode cX5_meet 47 = .ok (.iload_n 1, 1) := by decide +kernel
theorem dX5_meet_48 : decode cX5_meet 48 = .ok (.iastore, 1) := by decide +kernel
theorem dX5_meet_49 : decode cX5_meet 49 = .ok (.aload_n 0, 1) := by decide +kernel
theorem dX5_meet_50 : decode cX5_meet 50 = .ok (.dup, 1) := by decide +kernel
theorem dX5_meet_51 : decode cX5_meet 51 = .ok (.getfield 47, 3) := by decide +kernel
theorem dX5_meet_54 : decode cX5_meet 54 = .ok (.iconst 1, 1) := by decide +kernel
theorem dX5_meet_55 : decode cX5_meet 55 = .ok (.iadd, 1) := by decide +kernel
theorem dX5_meet_56 : decode cX5_meet 56 = .ok (.putfield 47, 3) := by decide +kernel
theorem dX5_meet_59 : decode cX5_meet 59 = .ok (.return_, 1) := by decide +kernel
set_option maxRecDepth 20000 in
theorem ggX5_lookFurther_X5_beatsBehind : GoodIn wsX5_lookFurther wsX5_beatsBehind := goodIn_r _ [8, 9, 3, 10, 11, 12, 13, 14, 15, 16, 17, 18, 19, 7, 20, 21, 22, 23, 24, 25, 26, 27, 28, 29, 30, 31, 32, 33, 34, 35, 36] (by decide +kernel) (by decide +kernel)
set_option maxRecDepth 20000 in
theorem gX5_lookFurther_X5_beatsBehind : GoodIn wsX5_lookFurther (wsV RX5 58 RX5 yX5_beatsBehind wsX5_beatsBehind) := goodIn_app (goodIn_of _ (by decide +kernel)) ggX5_lookFurther_X5_beatsBehind
theorem dX5_lookFurther_0 : decode cX5_lookFurther 0 = .ok (.iconst 0, 1) := by decide +kernel
theorem dX5_lookFurther_1 : decode cX5_lookFurther 1 = .ok (.istore_n 1, 1) := by decide +kernel
theorem dX5_lookFurther_2 : decode cX5_lookFurther 2 = .ok (.aload_n 0, 1) := by decide +kernel
theorem dX5_lookFurther_3 : decode cX5_lookFurther 3 = .ok (.getfield 47, 3) := by decide +kernel
theorem dX5_lookFurther_6 : decode cX5_lookFurther 6 = .ok (.iconst 1, 1) := by decide +kernel
theorem dX5_lookFurther_7 : decode cX5_lookFurther 7 = .ok (.isub, 1) := by decide +kernel
theorem dX5_lookFurther_8 : decode cX5_lookFurther 8 = .ok (.istore_n 2, 1) := by decide +kernel
theorem dX5_lookFurther_9 : decode cX5_lookFurther 9 = .ok (.iload_n 2, 1) := by decide +kernel
theorem dX5_lookFurther_10 : decode cX5_lookFurther 10 = .ok (.ifCond .lt 49, 3) := by decide +kernel
theorem dX5_lookFurther_13 : decode cX5_lookFurther 13 = .ok (.aload_n 0, 1) := by decide +kernel
theorem dX5_lookFurther_14 : decode cX5_lookFurther 14 = .ok (.aload_n 0, 1) := by decide +kernel
theorem dX5_lookFurther_15 : decode cX5_lookFurther 15 = .ok (.getfield 21, 3) := by decide +kernel
theorem dX5_lookFurther_18 : decode cX5_lookFurther 18 = .ok (.iload_n 2, 1) := by decide +kernel
theorem dX5_lookFurther_19 : decode cX5_lookFurther 19 = .ok (.iaload, 1) := by decide +kernel
theorem dX5_lookFurther_20 : decode cX5_lookFurther 20 = .ok (.invokevirtual 58, 3) := by decide +kernel
theorem dX5_lookFurther_23 : decode cX5_lookFurther 23 = .ok (.istore_n 3, 1) := by decide +kernel
theorem dX5_lookFurther_24 : decode cX5_lookFurther 24 = .ok (.iload_n 3, 1) := by decide +kernel
theorem dX5_lookFurther_25 : decode cX5_lookFurther 25 = .ok (.aload_n 0, 1) := by decide +kernel
theorem dX5_lookFurther_26 : decode cX5_lookFurther 26 = .ok (.getfield 18, 3) := by decide +kernel
theorem dX5_lookFurther_29 : decode cX5_lookFurther 29 = .ok (.aload_n 0, 1) := by decide +kernel
theorem dX5_lookFurther_30 : decode cX5_lookFurther 30 = .ok (.getfield 21, 3) := by decide +kernel
theorem dX5_lookFurther_33 : decode cX5_lookFurther 33 = .ok (.iload_n 2, 1) := by decide +kernel
theorem dX5_lookFurther_34 : decode cX5_lookFurther 34 = .ok (.iaload, 1) := by decide +kernel
theorem dX5_lookFurther_35 : decode cX5_lookFurther 35 = .ok (.iaload, 1) := by decide +kernel
theorem dX5_lookFurther_36 : decode cX5_lookFurther 36 = .ok (.if_icmp .le 17, 3) := by decide +kernel
theorem dX5_lookFurther_39 : decode cX5_lookFurther 39 = .ok (.aload_n 0, 1) := by decide +kernel
theorem dX5_lookFurther_40 : decode cX5_lookFurther 40 = .ok (.getfield 18, 3) := by decide +kernel
theorem dX5_lookFurther_43 : decode cX5_lookFurther 43 = .ok (.aload_n 0, 1) := by decide +kernel
theorem dX5_lookFurther_44 : decode cX5_lookFurther 44 = .ok (.getfield 21, 3) := by decide +kernel
theorem dX5_lookFurther_47 : decode cX5_lookFurther 47 = .ok (.iload_n 2, 1) := by decide +kernel
theorem dX5_lookFurther_48 : decode cX5_lookFurther 48 = .ok (.iaload, 1) := by decide +kernel
theorem dX5_lookFurther_49 : decode cX5_lookFurther 49 = .ok (.iload_n 3, 1) := by decide +kernel
theorem dX5_lookFurther_50 : decode cX5_lookFurther 50 = .ok (.iastore, 1) := by decide +kernel
theorem dX5_lookFurther_51 : decode cX5_lookFurther 51 = .ok (.iconst 1, 1) := by decide +kernel
theorem dX5_lookFurther_52 : decode cX5_lookFurther 52 = .ok (.istore_n 1, 1) := by decide +kernel
theorem dX5_lookFurther_53 : decode cX5_lookFurther 53 = .ok (.iinc 2 (-1), 3) := by decide +kernel
theorem dX5_lookFurther_56 : decode cX5_lookFurther 56 = .ok (.goto (-47), 3) := by decide +kernel
theorem dX5_lookFurther_59 : decode cX5_lookFurther 59 = .ok (.iload_n 1, 1) := by decide +kernel
theorem dX5_lookFurther_60 : decode cX5_lookFurther 60 = .ok (.ireturn, 1) := by decide +kernel
set_option maxRecDepth 20000 in
theorem ggX5_beatsBehind_X5_stateBehind : GoodIn wsX5_beatsBehind wsX5_stateBehind := goodIn_r _ [14, 1, 3, 4, 5, 6, 15, 16, 17, 13, 18, 19, 20, 21, 22, 23, 24, 25, 26, 27, 28, 29, 30] (by decide +kernel) (by decide +kernel)
set_option maxRecDepth 20000 in
theorem gX5_beatsBehind_X5_stateBehind : GoodIn wsX5_beatsBehind (wsV RX5 55 RX5 yX5_stateBehind wsX5_stateBehind) := goodIn_app (goodIn_of _ (by decide +kernel)) ggX5_beatsBehind_X5_stateBehind
theorem dX5_beatsBehind_0 : decode cX5_beatsBehind 0 = .ok (.iconst 0, 1) := by decide +kernel
theorem dX5_beatsBehind_1 : decode cX5_beatsBehind 1 = .ok (.istore_n 2, 1) := by decide +kernel
theorem dX5_beatsBehind_2 : decode cX5_beatsBehind 2 = .ok (.iconst 0, 1) := by decide +kernel
theorem dX5_beatsBehind_3 : decode cX5_beatsBehind 3 = .ok (.istore_n 3, 1) := by decide +kernel
theorem dX5_beatsBehind_4 : decode cX5_beatsBehind 4 = .ok (.iload_n 3, 1) := by decide +kernel
theorem dX5_beatsBehind_5 : decode cX5_beatsBehind 5 = .ok (.iconst 3, 1) := by decide +kernel
theorem dX5_beatsBehind_6 : decode cX5_beatsBehind 6 = .ok (.if_icmp .ge 49, 3) := by decide +kernel
theorem dX5_beatsBehind_9 : decode cX5_beatsBehind 9 = .ok (.aload_n 0, 1) := by decide +kernel
theorem dX5_beatsBehind_10 : decode cX5_beatsBehind 10 = .ok (.iload_n 1, 1) := by decide +kernel
theorem dX5_beatsBehind_11 : decode cX5_beatsBehind 11 = .ok (.iload_n 3, 1) := by decide +kernel
theorem dX5_beatsBehind_12 : decode cX5_beatsBehind 12 = .ok (.invokevirtual 55, 3) := by decide +kernel
theorem dX5_beatsBehind_15 : decode cX5_beatsBehind 15 = .ok (.istore 4, 2) := by decide +kernel
theorem dX5_beatsBehind_17 : decode cX5_beatsBehind 17 = .ok (.iload 4, 2) := by decide +kernel
theorem dX5_beatsBehind_19 : decode cX5_beatsBehind 19 = .ok (.ifCond .lt 30, 3) := by decide +kernel
theorem dX5_beatsBehind_22 : decode cX5_beatsBehind 22 = .ok (.iload 4, 2) := by decide +kernel
theorem dX5_beatsBehind_24 : decode cX5_beatsBehind 24 = .ok (.sipush 300, 3) := by decide +kernel
theorem dX5_beatsBehind_27 : decode cX5_beatsBehind 27 = .ok (.if_icmp .ge 22, 3) := by decide +kernel
theorem dX5_beatsBehind_30 : decode cX5_beatsBehind 30 = .ok (.iload_n 2, 1) := by decide +kernel
theorem dX5_beatsBehind_31 : decode cX5_beatsBehind 31 = .ok (.aload_n 0, 1) := by decide +kernel
theorem dX5_beatsBehind_32 : decode cX5_beatsBehind 32 = .ok (.getfield 11, 3) := by decide +kernel
theorem dX5_beatsBehind_35 : decode cX5_beatsBehind 35 = .ok (.iload_n 3, 1) := by decide +kernel
theorem dX5_beatsBehind_36 : decode cX5_beatsBehind 36 = .ok (.iaload, 1) := by decide +kernel
theorem dX5_beatsBehind_37 : decode cX5_beatsBehind 37 = .ok (.aload_n 0, 1) := by decide +kernel
theorem dX5_beatsBehind_38 : decode cX5_beatsBehind 38 = .ok (.getfield 18, 3) := by decide +kernel
theorem dX5_beatsBehind_41 : decode cX5_beatsBehind 41 = .ok (.iload 4, 2) := by decide +kernel
theorem dX5_beatsBehind_43 : decode cX5_beatsBehind 43 = .ok (.iaload, 1) := by decide +kernel
theorem dX5_beatsBehind_44 : decode cX5_beatsBehind 44 = .ok (.iadd, 1) := by decide +kernel
theorem dX5_beatsBehind_45 : decode cX5_beatsBehind 45 = .ok (.invokestatic 61, 3) := by decide +kernel
theorem dX5_beatsBehind_48 : decode cX5_beatsBehind 48 = .ok (.istore_n 2, 1) := by decide +kernel
theorem dX5_beatsBehind_49 : decode cX5_beatsBehind 49 = .ok (.iinc 3 1, 3) := by decide +kernel
theorem dX5_beatsBehind_52 : decode cX5_beatsBehind 52 = .ok (.goto (-48), 3) := by decide +kernel
theorem dX5_beatsBehind_55 : decode cX5_beatsBehind 55 = .ok (.bipush 99, 2) := by decide +kernel
theorem dX5_beatsBehind_57 : decode cX5_beatsBehind 57 = .ok (.iload_n 2, 1) := by decide +kernel
theorem dX5_beatsBehind_58 : decode cX5_beatsBehind 58 = .ok (.invokestatic 31, 3) := by decide +kernel
theorem dX5_beatsBehind_61 : decode cX5_beatsBehind 61 = .ok (.ireturn, 1) := by decide +kernel
set_option maxRecDepth 20000 in
theorem ggX5_stateBehind_X5_restLeft : GoodIn wsX5_stateBehind wsX5_restLeft := goodIn_r _ [10, 11, 12, 13, 9, 14, 18, 19, 20, 21, 22] (by decide +kernel) (by decide +kernel)
set_option maxRecDepth 20000 in
theorem gX5_stateBehind_X5_restLeft : GoodIn wsX5_stateBehind (wsV RX5 64 RX5 yX5_restLeft wsX5_restLeft) := goodIn_app (goodIn_of _ (by decide +kernel)) ggX5_stateBehind_X5_restLeft
set_option maxRecDepth 20000 in
theorem ggX5_stateBehind_X5_firstOther : GoodIn wsX5_stateBehind wsX5_firstOther := goodIn_r _ [14] (by decide +kernel) (by decide +kernel)
set_option maxRecDepth 20000 in
theorem gX5_stateBehind_X5_firstOther : GoodIn wsX5_stateBehind (va_wsS RX5 67 yX5_firstOther wsX5_firstOther) := goodIn_app (goodIn_of _ (by decide +kernel)) ggX5_stateBehind_X5_firstOther
set_option maxRecDepth 20000 in
theorem ggX5_stateBehind_X5_secondOther : GoodIn wsX5_stateBehind wsX5_secondOther := goodIn_r _ [17] (by decide +kernel) (by decide +kernel)
set_option maxRecDepth 20000 in
theorem gX5_stateBehind_X5_secondOther : GoodIn wsX5_stateBehind (va_wsS RX5 70 yX5_secondOther wsX5_secondOther) := goodIn_app (goodIn_of _ (by decide +kernel)) ggX5_stateBehind_X5_secondOther
theorem dX5_stateBehind_0 : decode cX5_stateBehind 0 = .ok (.aload_n 0, 1) := by decide +kernel
theorem dX5_stateBehind_1 : decode cX5_stateBehind 1 = .ok (.iload_n 1, 1) := by decide +kernel
theorem dX5_stateBehind_2 : decode cX5_stateBehind 2 = .ok (.iload_n 2, 1) := by decide +kernel
theorem dX5_stateBehind_3 : decode cX5_stateBehind 3 = .ok (.invokevirtual 64, 3) := by decide +kernel
theorem dX5_stateBehind_6 : decode cX5_stateBehind 6 = .ok (.ifCond .le 6, 3) := by decide +kernel
theorem dX5_stateBehind_9 : decode cX5_stateBehind 9 = .ok (.bipush (-6), 2) := by decide +kernel
theorem dX5_stateBehind_11 : decode cX5_stateBehind 11 = .ok (.ireturn, 1) := by decide +kernel
theorem dX5_stateBehind_12 : decode cX5_stateBehind 12 = .ok (.iconst 0, 1) := by decide +kernel
theorem dX5_stateBehind_13 : decode cX5_stateBehind 13 = .ok (.aload_n 0, 1) := by decide +kernel
theorem dX5_stateBehind_14 : decode cX5_stateBehind 14 = .ok (.iload_n 1, 1) := by decide +kernel
theorem dX5_stateBehind_15 : decode cX5_stateBehind 15 = .ok (.iload_n 2, 1) := by decide +kernel
theorem dX5_stateBehind_16 : decode cX5_stateBehind 16 = .ok (.invokestatic 67, 3) := by decide +kernel
theorem dX5_stateBehind_19 : decode cX5_stateBehind 19 = .ok (.invokevirtual 64, 3) := by decide +kernel
theorem dX5_stateBehind_22 : decode cX5_stateBehind 22 = .ok (.aload_n 0, 1) := by decide +kernel
theorem dX5_stateBehind_23 : decode cX5_stateBehind 23 = .ok (.getfield 11, 3) := by decide +kernel
theorem dX5_stateBehind_26 : decode cX5_stateBehind 26 = .ok (.iload_n 2, 1) := by decide +kernel
theorem dX5_stateBehind_27 : decode cX5_stateBehind 27 = .ok (.iaload, 1) := by decide +kernel
theorem dX5_stateBehind_28 : decode cX5_stateBehind 28 = .ok (.isub, 1) := by decide +kernel
theorem dX5_stateBehind_29 : decode cX5_stateBehind 29 = .ok (.invokestatic 61, 3) := by decide +kernel
theorem dX5_stateBehind_32 : decode cX5_stateBehind 32 = .ok (.istore_n 3, 1) := by decide +kernel
theorem dX5_stateBehind_33 : decode cX5_stateBehind 33 = .ok (.iconst 0, 1) := by decide +kernel
theorem dX5_stateBehind_34 : decode cX5_stateBehind 34 = .ok (.aload_n 0, 1) := by decide +kernel
theorem dX5_stateBehind_35 : decode cX5_stateBehind 35 = .ok (.iload_n 1, 1) := by decide +kernel
theorem dX5_stateBehind_36 : decode cX5_stateBehind 36 = .ok (.iload_n 2, 1) := by decide +kernel
theorem dX5_stateBehind_37 : decode cX5_stateBehind 37 = .ok (.invokestatic 70, 3) := by decide +kernel
theorem dX5_stateBehind_40 : decode cX5_stateBehind 40 = .ok (.invokevirtual 64, 3) := by decide +kernel
theorem dX5_stateBehind_43 : decode cX5_stateBehind 43 = .ok (.aload_n 0, 1) := by decide +kernel
theorem dX5_stateBehind_44 : decode cX5_stateBehind 44 = .ok (.getfield 11, 3) := by decide +kernel
theorem dX5_stateBehind_47 : decode cX5_stateBehind 47 = .ok (.iload_n 2, 1) := by decide +kernel
theorem dX5_stateBehind_48 : decode cX5_stateBehind 48 = .ok (.iaload, 1) := by decide +kernel
theorem dX5_stateBehind_49 : decode cX5_stateBehind 49 = .ok (.isub, 1) := by decide +kernel
theorem dX5_stateBehind_50 : decode cX5_stateBehind 50 = .ok (.invokestatic 61, 3) := by decide +kernel
theorem dX5_stateBehind_53 : decode cX5_stateBehind 53 = .ok (.istore 4, 2) := by decide +kernel
theorem dX5_stateBehind_55 : decode cX5_stateBehind 55 = .ok (.bipush 100, 2) := by decide +kernel
theorem dX5_stateBehind_57 : decode cX5_stateBehind 57 = .ok (.iload_n 2, 1) := by decide +kernel
theorem dX5_stateBehind_58 : decode cX5_stateBehind 58 = .ok (.imul, 1) := by decide +kernel
theorem dX5_stateBehind_59 : decode cX5_stateBehind 59 = .ok (.bipush 10, 2) := by decide +kernel
theorem dX5_stateBehind_61 : decode cX5_stateBehind 61 = .ok (.iload_n 3, 1) := by decide +kernel
theorem dX5_stateBehind_62 : decode cX5_stateBehind 62 = .ok (.imul, 1) := by decide +kernel
theorem dX5_stateBehind_63 : decode cX5_stateBehind 63 = .ok (.iadd, 1) := by decide +kernel
theorem dX5_stateBehind_64 : decode cX5_stateBehind 64 = .ok (.iload 4, 2) := by decide +kernel
theorem dX5_stateBehind_66 : decode cX5_stateBehind 66 = .ok (.iadd, 1) := by decide +kernel
theorem dX5_stateBehind_67 : decode cX5_stateBehind 67 = .ok (.ireturn, 1) := by decide +kernel
set_option maxRecDepth 20000 in
theorem ggX5_restLeft_X5_firstOther : GoodIn wsX5_restLeft wsX5_firstOther := goodIn_r _ [5] (by decide +kernel) (by decide +kernel)
set_option maxRecDepth 20000 in
theorem gX5_restLeft_X5_firstOther : GoodIn wsX5_restLeft (va_wsS RX5 67 yX5_firstOther wsX5_firstOther) := goodIn_app (goodIn_of _ (by decide +kernel)) ggX5_restLeft_X5_firstOther
theorem dX5_restLeft_0 : decode cX5_restLeft 0 = .ok (.iload_n 1, 1) := by decide +kernel
theorem dX5_restLeft_1 : decode cX5_restLeft 1 = .ok (.bipush 100, 2) := by decide +kernel
theorem dX5_restLeft_3 : decode cX5_restLeft 3 = .ok (.idiv, 1) := by decide +kernel
theorem dX5_restLeft_4 : decode cX5_restLeft 4 = .ok (.istore_n 3, 1) := by decide +kernel
theorem dX5_restLeft_5 : decode cX5_restLeft 5 = .ok (.iload_n 2, 1) := by decide +kernel
theorem dX5_restLeft_6 : decode cX5_restLeft 6 = .ok (.iload_n 3, 1) := by decide +kernel
theorem dX5_restLeft_7 : decode cX5_restLeft 7 = .ok (.if_icmp .ne 10, 3) := by decide +kernel
theorem dX5_restLeft_10 : decode cX5_restLeft 10 = .ok (.aload_n 0, 1) := by decide +kernel
theorem dX5_restLeft_11 : decode cX5_restLeft 11 = .ok (.getfield 15, 3) := by decide +kernel
theorem dX5_restLeft_14 : decode cX5_restLeft 14 = .ok (.iload_n 2, 1) := by decide +kernel
theorem dX5_restLeft_15 : decode cX5_restLeft 15 = .ok (.iaload, 1) := by decide +kernel
theorem dX5_restLeft_16 : decode cX5_restLeft 16 = .ok (.ireturn, 1) := by decide +kernel
theorem dX5_restLeft_17 : decode cX5_restLeft 17 = .ok (.iload_n 2, 1) := by decide +kernel
theorem dX5_restLeft_18 : decode cX5_restLeft 18 = .ok (.iload_n 3, 1) := by decide +kernel
theorem dX5_restLeft_19 : decode cX5_restLeft 19 = .ok (.invokestatic 67, 3) := by decide +kernel
theorem dX5_restLeft_22 : decode cX5_restLeft 22 = .ok (.if_icmp .ne 13, 3) := by decide +kernel
theorem dX5_restLeft_25 : decode cX5_restLeft 25 = .ok (.iload_n 1, 1) := by decide +kernel
theorem dX5_restLeft_26 : decode cX5_restLeft 26 = .ok (.bipush 10, 2) := by decide +kernel
theorem dX5_restLeft_28 : decode cX5_restLeft 28 = .ok (.idiv, 1) := by decide +kernel
theorem dX5_restLeft_29 : decode cX5_restLeft 29 = .ok (.bipush 10, 2) := by decide +kernel
theorem dX5_restLeft_31 : decode cX5_restLeft 31 = .ok (.irem, 1) := by decide +kernel
theorem dX5_restLeft_32 : decode cX5_restLeft 32 = .ok (.goto 7, 3) := by decide +kernel
theorem dX5_restLeft_35 : decode cX5_restLeft 35 = .ok (.iload_n 1, 1) := by decide +kernel
theorem dX5_restLeft_36 : decode cX5_restLeft 36 = .ok (.bipush 10, 2) := by decide +kernel
theorem dX5_restLeft_38 : decode cX5_restLeft 38 = .ok (.irem, 1) := by decide +kernel
theorem dX5_restLeft_39 : decode cX5_restLeft 39 = .ok (.ireturn, 1) := by decide +kernel
theorem dX5_firstOther_0 : decode cX5_firstOther 0 = .ok (.iload_n 0, 1) := by decide +kernel
theorem dX5_firstOther_1 : decode cX5_firstOther 1 = .ok (.ifCond .ne 7, 3) := by decide +kernel
theorem dX5_firstOther_4 : decode cX5_firstOther 4 = .ok (.iconst 1, 1) := by decide +kernel
theorem dX5_firstOther_5 : decode cX5_firstOther 5 = .ok (.goto 4, 3) := by decide +kernel
theorem dX5_firstOther_8 : decode cX5_firstOther 8 = .ok (.iconst 0, 1) := by decide +kernel
theorem dX5_firstOther_9 : decode cX5_firstOther 9 = .ok (.ireturn, 1) := by decide +kernel
theorem dX5_secondOther_0 : decode cX5_secondOther 0 = .ok (.iload_n 0, 1) := by decide +kernel
theorem dX5_secondOther_1 : decode cX5_secondOther 1 = .ok (.iconst 2, 1) := by decide +kernel
theorem dX5_secondOther_2 : decode cX5_secondOther 2 = .ok (.if_icmp .ne 7, 3) := by decide +kernel
theorem dX5_secondOther_5 : decode cX5_secondOther 5 = .ok (.iconst 1, 1) := by decide +kernel
theorem dX5_secondOther_6 : decode cX5_secondOther 6 = .ok (.goto 4, 3) := by decide +kernel
