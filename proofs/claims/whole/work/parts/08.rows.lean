theorem dX8_gallery_55 : decode cX8_gallery 55 = .ok (.iload_n 1, 1) := by decide +kernel
theorem dX8_gallery_56 : decode cX8_gallery 56 = .ok (.ishl, 1) := by decide +kernel
theorem dX8_gallery_57 : decode cX8_gallery 57 = .ok (.goto 4, 3) := by decide +kernel
theorem dX8_gallery_60 : decode cX8_gallery 60 = .ok (.iconst 0, 1) := by decide +kernel
theorem dX8_gallery_61 : decode cX8_gallery 61 = .ok (.ior, 1) := by decide +kernel
theorem dX8_gallery_62 : decode cX8_gallery 62 = .ok (.putfield 79, 3) := by decide +kernel
theorem dX8_gallery_65 : decode cX8_gallery 65 = .ok (.iload 4, 2) := by decide +kernel
theorem dX8_gallery_67 : decode cX8_gallery 67 = .ok (.ireturn, 1) := by decide +kernel
set_option maxRecDepth 20000 in
theorem ggX8_voice_X8_in : GoodIn wsX8_voice wsX8_in := goodIn_r _ [9] (by decide +kernel) (by decide +kernel)
set_option maxRecDepth 20000 in
theorem gX8_voice_X8_in : GoodIn wsX8_voice (va_wsS RX8 59 yX8_in wsX8_in) := goodIn_app (goodIn_of _ (by decide +kernel)) ggX8_voice_X8_in
set_option maxRecDepth 20000 in
theorem ggX8_voice_X8_isGallery : GoodIn wsX8_voice wsX8_isGallery := goodIn_r _ [12, 6, 7, 8, 9] (by decide +kernel) (by decide +kernel)
set_option maxRecDepth 20000 in
theorem gX8_voice_X8_isGallery : GoodIn wsX8_voice (va_wsS RX8 71 yX8_isGallery wsX8_isGallery) := goodIn_app (goodIn_of _ (by decide +kernel)) ggX8_voice_X8_isGallery
set_option maxRecDepth 20000 in
theorem ggX8_voice_X8_bits : GoodIn wsX8_voice wsX8_bits := goodIn_r _ [15] (by decide +kernel) (by decide +kernel)
set_option maxRecDepth 20000 in
theorem gX8_voice_X8_bits : GoodIn wsX8_voice (va_wsS RX8 75 yX8_bits wsX8_bits) := goodIn_app (goodIn_of _ (by decide +kernel)) ggX8_voice_X8_bits
theorem dX8_voice_0 : decode cX8_voice 0 = .ok (.iload_n 1, 1) := by decide +kernel
theorem dX8_voice_1 : decode cX8_voice 1 = .ok (.iconst 0, 1) := by decide +kernel
theorem dX8_voice_2 : decode cX8_voice 2 = .ok (.bipush 7, 2) := by decide +kernel
theorem dX8_voice_4 : decode cX8_voice 4 = .ok (.invokestatic 59, 3) := by decide +kernel
theorem dX8_voice_7 : decode cX8_voice 7 = .ok (.ifCond .eq 11, 3) := by decide +kernel
theorem dX8_voice_10 : decode cX8_voice 10 = .ok (.iload 5, 2) := by decide +kernel
theorem dX8_voice_12 : decode cX8_voice 12 = .ok (.invokestatic 71, 3) := by decide +kernel
theorem dX8_voice_15 : decode cX8_voice 15 = .ok (.ifCond .ne 5, 3) := by decide +kernel
theorem dX8_voice_18 : decode cX8_voice 18 = .ok (.iconst (-1), 1) := by decide +kernel
theorem dX8_voice_19 : decode cX8_voice 19 = .ok (.ireturn, 1) := by decide +kernel
theorem dX8_voice_20 : decode cX8_voice 20 = .ok (.iload_n 2, 1) := by decide +kernel
theorem dX8_voice_21 : decode cX8_voice 21 = .ok (.iconst 0, 1) := by decide +kernel
theorem dX8_voice_22 : decode cX8_voice 22 = .ok (.bipush 23, 2) := by decide +kernel
theorem dX8_voice_24 : decode cX8_voice 24 = .ok (.invokestatic 59, 3) := by decide +kernel
theorem dX8_voice_27 : decode cX8_voice 27 = .ok (.ifCond .eq 24, 3) := by decide +kernel
theorem dX8_voice_30 : decode cX8_voice 30 = .ok (.iload_n 3, 1) := by decide +kernel
theorem dX8_voice_31 : decode cX8_voice 31 = .ok (.iload_n 2, 1) := by decide +kernel
theorem dX8_voice_32 : decode cX8_voice 32 = .ok (.bipush 23, 2) := by decide +kernel
theorem dX8_voice_34 : decode cX8_voice 34 = .ok (.invokestatic 59, 3) := by decide +kernel
theorem dX8_voice_37 : decode cX8_voice 37 = .ok (.ifCond .eq 14, 3) := by decide +kernel
theorem dX8_voice_40 : decode cX8_voice 40 = .ok (.iload 4, 2) := by decide +kernel
theorem dX8_voice_42 : decode cX8_voice 42 = .ok (.iconst 0, 1) := by decide +kernel
theorem dX8_voice_43 : decode cX8_voice 43 = .ok (.bipush 99, 2) := by decide +kernel
theorem dX8_voice_45 : decode cX8_voice 45 = .ok (.invokestatic 59, 3) := by decide +kernel
theorem dX8_voice_48 : decode cX8_voice 48 = .ok (.ifCond .ne 6, 3) := by decide +kernel
theorem dX8_voice_51 : decode cX8_voice 51 = .ok (.bipush (-2), 2) := by decide +kernel
theorem dX8_voice_53 : decode cX8_voice 53 = .ok (.ireturn, 1) := by decide +kernel
theorem dX8_voice_54 : decode cX8_voice 54 = .ok (.aload_n 0, 1) := by decide +kernel
theorem dX8_voice_55 : decode cX8_voice 55 = .ok (.dup, 1) := by decide +kernel
theorem dX8_voice_56 : decode cX8_voice 56 = .ok (.getfield 63, 3) := by decide +kernel
theorem dX8_voice_59 : decode cX8_voice 59 = .ok (.iconst 1, 1) := by decide +kernel
theorem dX8_voice_60 : decode cX8_voice 60 = .ok (.iload_n 1, 1) := by decide +kernel
theorem dX8_voice_61 : decode cX8_voice 61 = .ok (.ishl, 1) := by decide +kernel
theorem dX8_voice_62 : decode cX8_voice 62 = .ok (.ior, 1) := by decide +kernel
theorem dX8_voice_63 : decode cX8_voice 63 = .ok (.putfield 63, 3) := by decide +kernel
theorem dX8_voice_66 : decode cX8_voice 66 = .ok (.aload_n 0, 1) := by decide +kernel
theorem dX8_voice_67 : decode cX8_voice 67 = .ok (.getfield 16, 3) := by decide +kernel
theorem dX8_voice_70 : decode cX8_voice 70 = .ok (.iload_n 1, 1) := by decide +kernel
theorem dX8_voice_71 : decode cX8_voice 71 = .ok (.iload_n 2, 1) := by decide +kernel
theorem dX8_voice_72 : decode cX8_voice 72 = .ok (.iastore, 1) := by decide +kernel
theorem dX8_voice_73 : decode cX8_voice 73 = .ok (.aload_n 0, 1) := by decide +kernel
theorem dX8_voice_74 : decode cX8_voice 74 = .ok (.getfield 19, 3) := by decide +kernel
theorem dX8_voice_77 : decode cX8_voice 77 = .ok (.iload_n 1, 1) := by decide +kernel
theorem dX8_voice_78 : decode cX8_voice 78 = .ok (.iload_n 3, 1) := by decide +kernel
theorem dX8_voice_79 : decode cX8_voice 79 = .ok (.iastore, 1) := by decide +kernel
theorem dX8_voice_80 : decode cX8_voice 80 = .ok (.aload_n 0, 1) := by decide +kernel
theorem dX8_voice_81 : decode cX8_voice 81 = .ok (.getfield 22, 3) := by decide +kernel
theorem dX8_voice_84 : decode cX8_voice 84 = .ok (.iload_n 1, 1) := by decide +kernel
theorem dX8_voice_85 : decode cX8_voice 85 = .ok (.iload 4, 2) := by decide +kernel
theorem dX8_voice_87 : decode cX8_voice 87 = .ok (.iastore, 1) := by decide +kernel
theorem dX8_voice_88 : decode cX8_voice 88 = .ok (.aload_n 0, 1) := by decide +kernel
theorem dX8_voice_89 : decode cX8_voice 89 = .ok (.getfield 7, 3) := by decide +kernel
theorem dX8_voice_92 : decode cX8_voice 92 = .ok (.iload_n 1, 1) := by decide +kernel
theorem dX8_voice_93 : decode cX8_voice 93 = .ok (.bipush (-6), 2) := by decide +kernel
theorem dX8_voice_95 : decode cX8_voice 95 = .ok (.iastore, 1) := by decide +kernel
theorem dX8_voice_96 : decode cX8_voice 96 = .ok (.aload_n 0, 1) := by decide +kernel
theorem dX8_voice_97 : decode cX8_voice 97 = .ok (.getfield 7, 3) := by decide +kernel
theorem dX8_voice_100 : decode cX8_voice 100 = .ok (.bipush 8, 2) := by decide +kernel
theorem dX8_voice_102 : decode cX8_voice 102 = .ok (.iload_n 1, 1) := by decide +kernel
theorem dX8_voice_103 : decode cX8_voice 103 = .ok (.iadd, 1) := by decide +kernel
theorem dX8_voice_104 : decode cX8_voice 104 = .ok (.iload 4, 2) := by decide +kernel
theorem dX8_voice_106 : decode cX8_voice 106 = .ok (.iastore, 1) := by decide +kernel
theorem dX8_voice_107 : decode cX8_voice 107 = .ok (.aload_n 0, 1) := by decide +kernel
theorem dX8_voice_108 : decode cX8_voice 108 = .ok (.getfield 7, 3) := by decide +kernel
theorem dX8_voice_111 : decode cX8_voice 111 = .ok (.bipush 16, 2) := by decide +kernel
theorem dX8_voice_113 : decode cX8_voice 113 = .ok (.iload_n 1, 1) := by decide +kernel
theorem dX8_voice_114 : decode cX8_voice 114 = .ok (.iadd, 1) := by decide +kernel
theorem dX8_voice_115 : decode cX8_voice 115 = .ok (.iload 5, 2) := by decide +kernel
theorem dX8_voice_117 : decode cX8_voice 117 = .ok (.iastore, 1) := by decide +kernel
theorem dX8_voice_118 : decode cX8_voice 118 = .ok (.aload_n 0, 1) := by decide +kernel
theorem dX8_voice_119 : decode cX8_voice 119 = .ok (.getfield 63, 3) := by decide +kernel
theorem dX8_voice_122 : decode cX8_voice 122 = .ok (.invokestatic 75, 3) := by decide +kernel
theorem dX8_voice_125 : decode cX8_voice 125 = .ok (.ireturn, 1) := by decide +kernel
set_option maxRecDepth 20000 in
theorem ggX8_breath_X8_isThere : GoodIn wsX8_breath wsX8_isThere := goodIn_r _ [7, 8, 9, 10, 6, 11, 12, 13, 14, 15, 16, 17, 18, 19, 20, 21, 22, 23, 24, 25, 26, 27, 28, 29, 30, 31, 32, 33, 34, 35, 36, 37, 38] (by decide +kernel) (by decide +kernel)
set_option maxRecDepth 20000 in
theorem gX8_breath_X8_isThere : GoodIn wsX8_breath (wsV RX8 82 RX8 yX8_isThere wsX8_isThere) := goodIn_app (goodIn_of _ (by decide +kernel)) ggX8_breath_X8_isThere
set_option maxRecDepth 20000 in
theorem ggX8_breath_X8_in : GoodIn wsX8_breath wsX8_in := goodIn_r _ [11] (by decide +kernel) (by decide +kernel)
set_option maxRecDepth 20000 in
theorem gX8_breath_X8_in : GoodIn wsX8_breath (va_wsS RX8 59 yX8_in wsX8_in) := goodIn_app (goodIn_of _ (by decide +kernel)) ggX8_breath_X8_in
theorem dX8_breath_0 : decode cX8_breath 0 = .ok (.aload_n 0, 1) := by decide +kernel
theorem dX8_breath_1 : decode cX8_breath 1 = .ok (.iload_n 1, 1) := by decide +kernel
theorem dX8_breath_2 : decode cX8_breath 2 = .ok (.invokevirtual 82, 3) := by decide +kernel
theorem dX8_breath_5 : decode cX8_breath 5 = .ok (.ifCond .ne 5, 3) := by decide +kernel
theorem dX8_breath_8 : decode cX8_breath 8 = .ok (.iconst (-1), 1) := by decide +kernel
theorem dX8_breath_9 : decode cX8_breath 9 = .ok (.ireturn, 1) := by decide +kernel
theorem dX8_breath_10 : decode cX8_breath 10 = .ok (.iload_n 2, 1) := by decide +kernel
theorem dX8_breath_11 : decode cX8_breath 11 = .ok (.iconst 0, 1) := by decide +kernel
theorem dX8_breath_12 : decode cX8_breath 12 = .ok (.aload_n 0, 1) := by decide +kernel
theorem dX8_breath_13 : decode cX8_breath 13 = .ok (.getfield 22, 3) := by decide +kernel
theorem dX8_breath_16 : decode cX8_breath 16 = .ok (.iload_n 1, 1) := by decide +kernel
theorem dX8_breath_17 : decode cX8_breath 17 = .ok (.iaload, 1) := by decide +kernel
theorem dX8_breath_18 : decode cX8_breath 18 = .ok (.invokestatic 59, 3) := by decide +kernel
theorem dX8_breath_21 : decode cX8_breath 21 = .ok (.ifCond .ne 6, 3) := by decide +kernel
theorem dX8_breath_24 : decode cX8_breath 24 = .ok (.bipush (-2), 2) := by decide +kernel
theorem dX8_breath_26 : decode cX8_breath 26 = .ok (.ireturn, 1) := by decide +kernel
theorem dX8_breath_27 : decode cX8_breath 27 = .ok (.aload_n 0, 1) := by decide +kernel
theorem dX8_breath_28 : decode cX8_breath 28 = .ok (.getfield 7, 3) := by decide +kernel
theorem dX8_breath_31 : decode cX8_breath 31 = .ok (.bipush 8, 2) := by decide +kernel
theorem dX8_breath_33 : decode cX8_breath 33 = .ok (.iload_n 1, 1) := by decide +kernel
theorem dX8_breath_34 : decode cX8_breath 34 = .ok (.iadd, 1) := by decide +kernel
theorem dX8_breath_35 : decode cX8_breath 35 = .ok (.iaload, 1) := by decide +kernel
theorem dX8_breath_36 : decode cX8_breath 36 = .ok (.istore_n 3, 1) := by decide +kernel
theorem dX8_breath_37 : decode cX8_breath 37 = .ok (.aload_n 0, 1) := by decide +kernel
theorem dX8_breath_38 : decode cX8_breath 38 = .ok (.getfield 7, 3) := by decide +kernel
theorem dX8_breath_41 : decode cX8_breath 41 = .ok (.bipush 8, 2) := by decide +kernel
theorem dX8_breath_43 : decode cX8_breath 43 = .ok (.iload_n 1, 1) := by decide +kernel
theorem dX8_breath_44 : decode cX8_breath 44 = .ok (.iadd, 1) := by decide +kernel
theorem dX8_breath_45 : decode cX8_breath 45 = .ok (.iload_n 2, 1) := by decide +kernel
theorem dX8_breath_46 : decode cX8_breath 46 = .ok (.iastore, 1) := by decide +kernel
theorem dX8_breath_47 : decode cX8_breath 47 = .ok (.aload_n 0, 1) := by decide +kernel
theorem dX8_breath_48 : decode cX8_breath 48 = .ok (.getfield 7, 3) := by decide +kernel
theorem dX8_breath_51 : decode cX8_breath 51 = .ok (.iload_n 1, 1) := by decide +kernel
theorem dX8_breath_52 : decode cX8_breath 52 = .ok (.iload_n 2, 1) := by decide +kernel
theorem dX8_breath_53 : decode cX8_breath 53 = .ok (.ifCond .ne 8, 3) := by decide +kernel
theorem dX8_breath_56 : decode cX8_breath 56 = .ok (.bipush (-6), 2) := by decide +kernel
theorem dX8_breath_58 : decode cX8_breath 58 = .ok (.goto 9, 3) := by decide +kernel
theorem dX8_breath_61 : decode cX8_breath 61 = .ok (.aload_n 0, 1) := by decide +kernel
theorem dX8_breath_62 : decode cX8_breath 62 = .ok (.getfield 7, 3) := by decide +kernel
theorem dX8_breath_65 : decode cX8_breath 65 = .ok (.iload_n 1, 1) := by decide +kernel
theorem dX8_breath_66 : decode cX8_breath 66 = .ok (.iaload, 1) := by decide +kernel
theorem dX8_breath_67 : decode cX8_breath 67 = .ok (.iastore, 1) := by decide +kernel
theorem dX8_breath_68 : decode cX8_breath 68 = .ok (.iload_n 3, 1) := by decide +kernel
theorem dX8_breath_69 : decode cX8_breath 69 = .ok (.ireturn, 1) := by decide +kernel
set_option maxRecDepth 20000 in
theorem ggX8_leave_X8_isThere : GoodIn wsX8_leave wsX8_isThere := goodIn_r _ [6, 1, 7, 8, 5, 9, 10, 11, 12, 16, 17, 18, 19, 20, 21, 22, 23, 24, 25, 26, 27, 28, 29, 30, 31, 32, 33, 34, 35, 36, 37, 38, 39] (by decide +kernel) (by decide +kernel)
set_option maxRecDepth 20000 in
theorem gX8_leave_X8_isThere : GoodIn wsX8_leave (wsV RX8 82 RX8 yX8_isThere wsX8_isThere) := goodIn_app (goodIn_of _ (by decide +kernel)) ggX8_leave_X8_isThere
set_option maxRecDepth 20000 in
theorem ggX8_leave_X8_bits : GoodIn wsX8_leave wsX8_bits := goodIn_r _ [15] (by decide +kernel) (by decide +kernel)
set_option maxRecDepth 20000 in
theorem gX8_leave_X8_bits : GoodIn wsX8_leave (va_wsS RX8 75 yX8_bits wsX8_bits) := goodIn_app (goodIn_of _ (by decide +kernel)) ggX8_leave_X8_bits
theorem dX8_leave_0 : decode cX8_leave 0 = .ok (.aload_n 0, 1) := by decide +kernel
theorem dX8_leave_1 : decode cX8_leave 1 = .ok (.iload_n 1, 1) := by decide +kernel
theorem dX8_leave_2 : decode cX8_leave 2 = .ok (.invokevirtual 82, 3) := by decide +kernel
theorem dX8_leave_5 : decode cX8_leave 5 = .ok (.ifCond .ne 5, 3) := by decide +kernel
theorem dX8_leave_8 : decode cX8_leave 8 = .ok (.iconst (-1), 1) := by decide +kernel
theorem dX8_leave_9 : decode cX8_leave 9 = .ok (.ireturn, 1) := by decide +kernel
theorem dX8_leave_10 : decode cX8_leave 10 = .ok (.aload_n 0, 1) := by decide +kernel
theorem dX8_leave_11 : decode cX8_leave 11 = .ok (.dup, 1) := by decide +kernel
theorem dX8_leave_12 : decode cX8_leave 12 = .ok (.getfield 63, 3) := by decide +kernel
theorem dX8_leave_15 : decode cX8_leave 15 = .ok (.iconst 1, 1) := by decide +kernel
theorem dX8_leave_16 : decode cX8_leave 16 = .ok (.iload_n 1, 1) := by decide +kernel
theorem dX8_leave_17 : decode cX8_leave 17 = .ok (.ishl, 1) := by decide +kernel
theorem dX8_leave_18 : decode cX8_leave 18 = .ok (.iconst (-1), 1) := by decide +kernel
theorem dX8_leave_19 : decode cX8_leave 19 = .ok (.ixor, 1) := by decide +kernel
theorem dX8_leave_20 : decode cX8_leave 20 = .ok (.iand, 1) := by decide +kernel
theorem dX8_leave_21 : decode cX8_leave 21 = .ok (.putfield 63, 3) := by decide +kernel
theorem dX8_leave_24 : decode cX8_leave 24 = .ok (.aload_n 0, 1) := by decide +kernel
theorem dX8_leave_25 : decode cX8_leave 25 = .ok (.getfield 63, 3) := by decide +kernel
theorem dX8_leave_28 : decode cX8_leave 28 = .ok (.invokestatic 75, 3) := by decide +kernel
theorem dX8_leave_31 : decode cX8_leave 31 = .ok (.ireturn, 1) := by decide +kernel
set_option maxRecDepth 20000 in
theorem ggX8_say_X8_in : GoodIn wsX8_say wsX8_in := goodIn_r _ [6] (by decide +kernel) (by decide +kernel)
set_option maxRecDepth 20000 in
theorem gX8_say_X8_in : GoodIn wsX8_say (va_wsS RX8 59 yX8_in wsX8_in) := goodIn_app (goodIn_of _ (by decide +kernel)) ggX8_say_X8_in
theorem dX8_say_0 : decode cX8_say 0 = .ok (.iload_n 1, 1) := by decide +kernel
theorem dX8_say_1 : decode cX8_say 1 = .ok (.bipush 33, 2) := by decide +kernel
theorem dX8_say_3 : decode cX8_say 3 = .ok (.bipush 126, 2) := by decide +kernel
theorem dX8_say_5 : decode cX8_say 5 = .ok (.invokestatic 59, 3) := by decide +kernel
theorem dX8_say_8 : decode cX8_say 8 = .ok (.ifCond .ne 6, 3) := by decide +kernel
theorem dX8_say_11 : decode cX8_say 11 = .ok (.bipush (-2), 2) := by decide +kernel
theorem dX8_say_13 : decode cX8_say 13 = .ok (.ireturn, 1) := by decide +kernel
theorem dX8_say_14 : decode cX8_say 14 = .ok (.aload_n 0, 1) := by decide +kernel
theorem dX8_say_15 : decode cX8_say 15 = .ok (.getfield 85, 3) := by decide +kernel
theorem dX8_say_18 : decode cX8_say 18 = .ok (.bipush 60, 2) := by decide +kernel
theorem dX8_say_20 : decode cX8_say 20 = .ok (.if_icmp .ne 6, 3) := by decide +kernel
theorem dX8_say_23 : decode cX8_say 23 = .ok (.bipush (-4), 2) := by decide +kernel
theorem dX8_say_25 : decode cX8_say 25 = .ok (.ireturn, 1) := by decide +kernel
theorem dX8_say_26 : decode cX8_say 26 = .ok (.aload_n 0, 1) := by decide +kernel
theorem dX8_say_27 : decode cX8_say 27 = .ok (.getfield 34, 3) := by decide +kernel
theorem dX8_say_30 : decode cX8_say 30 = .ok (.aload_n 0, 1) := by decide +kernel
theorem dX8_say_31 : decode cX8_say 31 = .ok (.getfield 85, 3) := by decide +kernel
theorem dX8_say_34 : decode cX8_say 34 = .ok (.iload_n 1, 1) := by decide +kernel
theorem dX8_say_35 : decode cX8_say 35 = .ok (.iastore, 1) := by decide +kernel
theorem dX8_say_36 : decode cX8_say 36 = .ok (.aload_n 0, 1) := by decide +kernel
theorem dX8_say_37 : decode cX8_say 37 = .ok (.dup, 1) := by decide +kernel
theorem dX8_say_38 : decode cX8_say 38 = .ok (.getfield 85, 3) := by decide +kernel
theorem dX8_say_41 : decode cX8_say 41 = .ok (.iconst 1, 1) := by decide +kernel
theorem dX8_say_42 : decode cX8_say 42 = .ok (.iadd, 1) := by decide +kernel
theorem dX8_say_43 : decode cX8_say 43 = .ok (.putfield 85, 3) := by decide +kernel
theorem dX8_say_46 : decode cX8_say 46 = .ok (.aload_n 0, 1) := by decide +kernel
theorem dX8_say_47 : decode cX8_say 47 = .ok (.getfield 85, 3) := by decide +kernel
theorem dX8_say_50 : decode cX8_say 50 = .ok (.ireturn, 1) := by decide +kernel
theorem dX8_wipe_0 : decode cX8_wipe 0 = .ok (.aload_n 0, 1) := by decide +kernel
theorem dX8_wipe_1 : decode cX8_wipe 1 = .ok (.getfield 85, 3) := by decide +kernel
theorem dX8_wipe_4 : decode cX8_wipe 4 = .ok (.istore_n 1, 1) := by decide +kernel
theorem dX8_wipe_5 : decode cX8_wipe 5 = .ok (.aload_n 0, 1) := by decide +kernel
theorem dX8_wipe_6 : decode cX8_wipe 6 = .ok (.iconst 0, 1) := by decide +kernel
theorem dX8_wipe_7 : decode cX8_wipe 7 = .ok (.putfield 85, 3) := by decide +kernel
theorem dX8_wipe_10 : decode cX8_wipe 10 = .ok (.iload_n 1, 1) := by decide +kernel
theorem dX8_wipe_11 : decode cX8_wipe 11 = .ok (.ireturn, 1) := by decide +kernel
set_option maxRecDepth 20000 in
theorem ggX8_faultOf_X8_in : GoodIn wsX8_faultOf wsX8_in := goodIn_r _ [6] (by decide +kernel) (by decide +kernel)
set_option maxRecDepth 20000 in
theorem gX8_faultOf_X8_in : GoodIn wsX8_faultOf (va_wsS RX8 59 yX8_in wsX8_in) := goodIn_app (goodIn_of _ (by decide +kernel)) ggX8_faultOf_X8_in
theorem dX8_faultOf_0 : decode cX8_faultOf 0 = .ok (.iconst 0, 1) := by decide +kernel
theorem dX8_faultOf_1 : decode cX8_faultOf 1 = .ok (.istore_n 1, 1) := by decide +kernel
theorem dX8_faultOf_2 : decode cX8_faultOf 2 = .ok (.iconst 0, 1) := by decide +kernel
theorem dX8_faultOf_3 : decode cX8_faultOf 3 = .ok (.istore_n 2, 1) := by decide +kernel
theorem dX8_faultOf_4 : decode cX8_faultOf 4 = .ok (.iload_n 2, 1) := by decide +kernel
theorem dX8_faultOf_5 : decode cX8_faultOf 5 = .ok (.aload_n 0, 1) := by decide +kernel
theorem dX8_faultOf_6 : decode cX8_faultOf 6 = .ok (.getfield 85, 3) := by decide +kernel
theorem dX8_faultOf_9 : decode cX8_faultOf 9 = .ok (.if_icmp .ge 149, 3) := by decide +kernel
theorem dX8_faultOf_12 : decode cX8_faultOf 12 = .ok (.aload_n 0, 1) := by decide +kernel
theorem dX8_faultOf_13 : decode cX8_faultOf 13 = .ok (.getfield 34, 3) := by decide +kernel
theorem dX8_faultOf_16 : decode cX8_faultOf 16 = .ok (.iload_n 2, 1) := by decide +kernel
theorem dX8_faultOf_17 : decode cX8_faultOf 17 = .ok (.iaload, 1) := by decide +kernel
theorem dX8_faultOf_18 : decode cX8_faultOf 18 = .ok (.istore_n 3, 1) := by decide +kernel
theorem dX8_faultOf_19 : decode cX8_faultOf 19 = .ok (.iload_n 1, 1) := by decide +kernel
theorem dX8_faultOf_20 : decode cX8_faultOf 20 = .ok (.ifCond .ne 34, 3) := by decide +kernel
theorem dX8_faultOf_23 : decode cX8_faultOf 23 = .ok (.iload_n 3, 1) := by decide +kernel
theorem dX8_faultOf_24 : decode cX8_faultOf 24 = .ok (.bipush 65, 2) := by decide +kernel
theorem dX8_faultOf_26 : decode cX8_faultOf 26 = .ok (.bipush 72, 2) := by decide +kernel
theorem dX8_faultOf_28 : decode cX8_faultOf 28 = .ok (.invokestatic 59, 3) := by decide +kernel
theorem dX8_faultOf_31 : decode cX8_faultOf 31 = .ok (.ifCond .ne 15, 3) := by decide +kernel
theorem dX8_faultOf_34 : decode cX8_faultOf 34 = .ok (.iload_n 3, 1) := by decide +kernel
theorem dX8_faultOf_35 : decode cX8_faultOf 35 = .ok (.bipush 42, 2) := by decide +kernel
theorem dX8_faultOf_37 : decode cX8_faultOf 37 = .ok (.if_icmp .eq 9, 3) := by decide +kernel
theorem dX8_faultOf_40 : decode cX8_faultOf 40 = .ok (.iload_n 3, 1) := by decide +kernel
theorem dX8_faultOf_41 : decode cX8_faultOf 41 = .ok (.bipush 46, 2) := by decide +kernel
theorem dX8_faultOf_43 : decode cX8_faultOf 43 = .ok (.if_icmp .ne 7, 3) := by decide +kernel
theorem dX8_faultOf_46 : decode cX8_faultOf 46 = .ok (.iconst 1, 1) := by decide +kernel
theorem dX8_faultOf_47 : decode cX8_faultOf 47 = .ok (.goto 51, 3) := by decide +kernel
theorem dX8_faultOf_50 : decode cX8_faultOf 50 = .ok (.iconst 0, 1) := by decide +kernel
theorem dX8_faultOf_51 : decode cX8_faultOf 51 = .ok (.goto 47, 3) := by decide +kernel
theorem dX8_faultOf_54 : decode cX8_faultOf 54 = .ok (.iload_n 1, 1) := by decide +kernel
theorem dX8_faultOf_55 : decode cX8_faultOf 55 = .ok (.iconst 1, 1) := by decide +kernel
theorem dX8_faultOf_56 : decode cX8_faultOf 56 = .ok (.if_icmp .ne 34, 3) := by decide +kernel
theorem dX8_faultOf_59 : decode cX8_faultOf 59 = .ok (.iload_n 3, 1) := by decide +kernel
theorem dX8_faultOf_60 : decode cX8_faultOf 60 = .ok (.bipush 97, 2) := by decide +kernel
theorem dX8_faultOf_62 : decode cX8_faultOf 62 = .ok (.bipush 120, 2) := by decide +kernel
theorem dX8_faultOf_64 : decode cX8_faultOf 64 = .ok (.invokestatic 59, 3) := by decide +kernel
theorem dX8_faultOf_67 : decode cX8_faultOf 67 = .ok (.ifCond .ne 15, 3) := by decide +kernel
theorem dX8_faultOf_70 : decode cX8_faultOf 70 = .ok (.iload_n 3, 1) := by decide +kernel
theorem dX8_faultOf_71 : decode cX8_faultOf 71 = .ok (.bipush 45, 2) := by decide +kernel
theorem dX8_faultOf_73 : decode cX8_faultOf 73 = .ok (.if_icmp .eq 9, 3) := by decide +kernel
theorem dX8_faultOf_76 : decode cX8_faultOf 76 = .ok (.iload_n 3, 1) := by decide +kernel
theorem dX8_faultOf_77 : decode cX8_faultOf 77 = .ok (.bipush 62, 2) := by decide +kernel
theorem dX8_faultOf_79 : decode cX8_faultOf 79 = .ok (.if_icmp .ne 7, 3) := by decide +kernel
theorem dX8_faultOf_82 : decode cX8_faultOf 82 = .ok (.iconst 1, 1) := by decide +kernel
theorem dX8_faultOf_83 : decode cX8_faultOf 83 = .ok (.goto 15, 3) := by decide +kernel
theorem dX8_faultOf_86 : decode cX8_faultOf 86 = .ok (.iconst 0, 1) := by decide +kernel
theorem dX8_faultOf_87 : decode cX8_faultOf 87 = .ok (.goto 11, 3) := by decide +kernel
theorem dX8_faultOf_90 : decode cX8_faultOf 90 = .ok (.iload_n 3, 1) := by decide +kernel
theorem dX8_faultOf_91 : decode cX8_faultOf 91 = .ok (.bipush 48, 2) := by decide +kernel
theorem dX8_faultOf_93 : decode cX8_faultOf 93 = .ok (.bipush 57, 2) := by decide +kernel
theorem dX8_faultOf_95 : decode cX8_faultOf 95 = .ok (.invokestatic 59, 3) := by decide +kernel
theorem dX8_faultOf_98 : decode cX8_faultOf 98 = .ok (.istore 4, 2) := by decide +kernel
theorem dX8_faultOf_100 : decode cX8_faultOf 100 = .ok (.iload 4, 2) := by decide +kernel
theorem dX8_faultOf_102 : decode cX8_faultOf 102 = .ok (.ifCond .ne 5, 3) := by decide +kernel
theorem dX8_faultOf_105 : decode cX8_faultOf 105 = .ok (.iload_n 2, 1) := by decide +kernel
theorem dX8_faultOf_106 : decode cX8_faultOf 106 = .ok (.ireturn, 1) := by decide +kernel
theorem dX8_faultOf_107 : decode cX8_faultOf 107 = .ok (.iload_n 1, 1) := by decide +kernel
theorem dX8_faultOf_108 : decode cX8_faultOf 108 = .ok (.ifCond .ne 27, 3) := by decide +kernel
theorem dX8_faultOf_111 : decode cX8_faultOf 111 = .ok (.iload_n 3, 1) := by decide +kernel
theorem dX8_faultOf_112 : decode cX8_faultOf 112 = .ok (.bipush 46, 2) := by decide +kernel
theorem dX8_faultOf_114 : decode cX8_faultOf 114 = .ok (.if_icmp .ne 7, 3) := by decide +kernel
theorem dX8_faultOf_117 : decode cX8_faultOf 117 = .ok (.iconst 0, 1) := by decide +kernel
theorem dX8_faultOf_118 : decode cX8_faultOf 118 = .ok (.goto 33, 3) := by decide +kernel
theorem dX8_faultOf_121 : decode cX8_faultOf 121 = .ok (.iload_n 3, 1) := by decide +kernel
theorem dX8_faultOf_122 : decode cX8_faultOf 122 = .ok (.bipush 42, 2) := by decide +kernel
theorem dX8_faultOf_124 : decode cX8_faultOf 124 = .ok (.if_icmp .ne 7, 3) := by decide +kernel
theorem dX8_faultOf_127 : decode cX8_faultOf 127 = .ok (.iconst 2, 1) := by decide +kernel
theorem dX8_faultOf_128 : decode cX8_faultOf 128 = .ok (.goto 23, 3) := by decide +kernel
theorem dX8_faultOf_131 : decode cX8_faultOf 131 = .ok (.iconst 1, 1) := by decide +kernel
theorem dX8_faultOf_132 : decode cX8_faultOf 132 = .ok (.goto 19, 3) := by decide +kernel
theorem dX8_faultOf_135 : decode cX8_faultOf 135 = .ok (.iload_n 1, 1) := by decide +kernel
theorem dX8_faultOf_136 : decode cX8_faultOf 136 = .ok (.iconst 1, 1) := by decide +kernel
theorem dX8_faultOf_137 : decode cX8_faultOf 137 = .ok (.if_icmp .ne 13, 3) := by decide +kernel
theorem dX8_faultOf_140 : decode cX8_faultOf 140 = .ok (.iload_n 3, 1) := by decide +kernel
theorem dX8_faultOf_141 : decode cX8_faultOf 141 = .ok (.bipush 62, 2) := by decide +kernel
theorem dX8_faultOf_143 : decode cX8_faultOf 143 = .ok (.if_icmp .ne 7, 3) := by decide +kernel
theorem dX8_faultOf_146 : decode cX8_faultOf 146 = .ok (.iconst 2, 1) := by decide +kernel
theorem dX8_faultOf_147 : decode cX8_faultOf 147 = .ok (.goto 4, 3) := by decide +kernel
theorem dX8_faultOf_150 : decode cX8_faultOf 150 = .ok (.iconst 0, 1) := by decide +kernel
theorem dX8_faultOf_151 : decode cX8_faultOf 151 = .ok (.istore_n 1, 1) := by decide +kernel
theorem dX8_faultOf_152 : decode cX8_faultOf 152 = .ok (.iinc 2 1, 3) := by decide +kernel
theorem dX8_faultOf_155 : decode cX8_faultOf 155 = .ok (.goto (-151), 3) := by decide +kernel
theorem dX8_faultOf_158 : decode cX8_faultOf 158 = .ok (.iload_n 1, 1) := by decide +kernel
theorem dX8_faultOf_159 : decode cX8_faultOf 159 = .ok (.ifCond .ne 8, 3) := by decide +kernel
theorem dX8_faultOf_162 : decode cX8_faultOf 162 = .ok (.bipush (-6), 2) := by decide +kernel
theorem dX8_faultOf_164 : decode cX8_faultOf 164 = .ok (.goto 7, 3) := by decide +kernel
theorem dX8_faultOf_167 : decode cX8_faultOf 167 = .ok (.aload_n 0, 1) := by decide +kernel
theorem dX8_faultOf_168 : decode cX8_faultOf 168 = .ok (.getfield 85, 3) := by decide +kernel
theorem dX8_faultOf_171 : decode cX8_faultOf 171 = .ok (.ireturn, 1) := by decide +kernel
set_option maxRecDepth 20000 in
theorem ggX8_fault_X8_faultOf : GoodIn wsX8_fault wsX8_faultOf := goodIn_r _ [5, 6, 7, 8, 9, 4, 10, 11, 12, 13, 14, 15, 16, 17, 18, 19, 20, 21, 22, 23, 24, 25, 26, 27, 28, 29, 30, 31, 32, 33, 34] (by decide +kernel) (by decide +kernel)
set_option maxRecDepth 20000 in
theorem gX8_fault_X8_faultOf : GoodIn wsX8_fault (wsV RX8 88 RX8 yX8_faultOf wsX8_faultOf) := goodIn_app (goodIn_of _ (by decide +kernel)) ggX8_fault_X8_faultOf
theorem dX8_fault_0 : decode cX8_fault 0 = .ok (.aload_n 0, 1) := by decide +kernel
theorem dX8_fault_1 : decode cX8_fault 1 = .ok (.invokevirtual 88, 3) := by decide +kernel
theorem dX8_fault_4 : decode cX8_fault 4 = .ok (.ireturn, 1) := by decide +kernel
set_option maxRecDepth 20000 in
theorem ggX8_sings_X8_isThere : GoodIn wsX8_sings wsX8_isThere := goodIn_r _ [6, 7, 8, 9, 5, 10, 11, 12, 13, 14, 15, 16, 17, 18, 19, 20, 21, 22, 23, 24, 25, 26, 27, 28, 29, 30, 31, 32, 33, 34, 35, 36, 37] (by decide +kernel) (by decide +kernel)
set_option maxRecDepth 20000 in
theorem gX8_sings_X8_isThere : GoodIn wsX8_sings (wsV RX8 82 RX8 yX8_isThere wsX8_isThere) := goodIn_app (goodIn_of _ (by decide +kernel)) ggX8_sings_X8_isThere
theorem dX8_sings_0 : decode cX8_sings 0 = .ok (.aload_n 0, 1) := by decide +kernel
theorem dX8_sings_1 : decode cX8_sings 1 = .ok (.iload_n 1, 1) := by decide +kernel
theorem dX8_sings_2 : decode cX8_sings 2 = .ok (.invokevirtual 82, 3) := by decide +kernel
theorem dX8_sings_5 : decode cX8_sings 5 = .ok (.ifCond .eq 29, 3) := by decide +kernel
theorem dX8_sings_8 : decode cX8_sings 8 = .ok (.aload_n 0, 1) := by decide +kernel
theorem dX8_sings_9 : decode cX8_sings 9 = .ok (.getfield 13, 3) := by decide +kernel
theorem dX8_sings_12 : decode cX8_sings 12 = .ok (.bipush 16, 2) := by decide +kernel
theorem dX8_sings_14 : decode cX8_sings 14 = .ok (.iload_n 1, 1) := by decide +kernel
theorem dX8_sings_15 : decode cX8_sings 15 = .ok (.iadd, 1) := by decide +kernel
theorem dX8_sings_16 : decode cX8_sings 16 = .ok (.iaload, 1) := by decide +kernel
theorem dX8_sings_17 : decode cX8_sings 17 = .ok (.iload_n 2, 1) := by decide +kernel
theorem dX8_sings_18 : decode cX8_sings 18 = .ok (.if_icmp .ne 16, 3) := by decide +kernel
theorem dX8_sings_21 : decode cX8_sings 21 = .ok (.aload_n 0, 1) := by decide +kernel
theorem dX8_sings_22 : decode cX8_sings 22 = .ok (.getfield 13, 3) := by decide +kernel
theorem dX8_sings_25 : decode cX8_sings 25 = .ok (.iload_n 1, 1) := by decide +kernel
theorem dX8_sings_26 : decode cX8_sings 26 = .ok (.iaload, 1) := by decide +kernel
theorem dX8_sings_27 : decode cX8_sings 27 = .ok (.ifCond .lt 7, 3) := by decide +kernel
theorem dX8_sings_30 : decode cX8_sings 30 = .ok (.iconst 1, 1) := by decide +kernel
theorem dX8_sings_31 : decode cX8_sings 31 = .ok (.goto 4, 3) := by decide +kernel
theorem dX8_sings_34 : decode cX8_sings 34 = .ok (.iconst 0, 1) := by decide +kernel
theorem dX8_sings_35 : decode cX8_sings 35 = .ok (.ireturn, 1) := by decide +kernel
theorem dX8_areHushed_0 : decode cX8_areHushed 0 = .ok (.aload_n 0, 1) := by decide +kernel
theorem dX8_areHushed_1 : decode cX8_areHushed 1 = .ok (.getfield 13, 3) := by decide +kernel
theorem dX8_areHushed_4 : decode cX8_areHushed 4 = .ok (.iload_n 1, 1) := by decide +kernel
theorem dX8_areHushed_5 : decode cX8_areHushed 5 = .ok (.iaload, 1) := by decide +kernel
theorem dX8_areHushed_6 : decode cX8_areHushed 6 = .ok (.aload_n 0, 1) := by decide +kernel
theorem dX8_areHushed_7 : decode cX8_areHushed 7 = .ok (.getfield 13, 3) := by decide +kernel
theorem dX8_areHushed_10 : decode cX8_areHushed 10 = .ok (.iload_n 2, 1) := by decide +kernel
theorem dX8_areHushed_11 : decode cX8_areHushed 11 = .ok (.iaload, 1) := by decide +kernel
theorem dX8_areHushed_12 : decode cX8_areHushed 12 = .ok (.isub, 1) := by decide +kernel
theorem dX8_areHushed_13 : decode cX8_areHushed 13 = .ok (.istore_n 3, 1) := by decide +kernel
theorem dX8_areHushed_14 : decode cX8_areHushed 14 = .ok (.iload_n 3, 1) := by decide +kernel
theorem dX8_areHushed_15 : decode cX8_areHushed 15 = .ok (.ifCond .ge 8, 3) := by decide +kernel
theorem dX8_areHushed_18 : decode cX8_areHushed 18 = .ok (.iload_n 3, 1) := by decide +kernel
theorem dX8_areHushed_19 : decode cX8_areHushed 19 = .ok (.ineg, 1) := by decide +kernel
theorem dX8_areHushed_20 : decode cX8_areHushed 20 = .ok (.goto 4, 3) := by decide +kernel
theorem dX8_areHushed_23 : decode cX8_areHushed 23 = .ok (.iload_n 3, 1) := by decide +kernel
theorem dX8_areHushed_24 : decode cX8_areHushed 24 = .ok (.istore_n 3, 1) := by decide +kernel
theorem dX8_areHushed_25 : decode cX8_areHushed 25 = .ok (.iload_n 3, 1) := by decide +kernel
theorem dX8_areHushed_26 : decode cX8_areHushed 26 = .ok (.iconst 3, 1) := by decide +kernel
theorem dX8_areHushed_27 : decode cX8_areHushed 27 = .ok (.if_icmp .eq 8, 3) := by decide +kernel
theorem dX8_areHushed_30 : decode cX8_areHushed 30 = .ok (.iload_n 3, 1) := by decide +kernel
theorem dX8_areHushed_31 : decode cX8_areHushed 31 = .ok (.iconst 4, 1) := by decide +kernel
theorem dX8_areHushed_32 : decode cX8_areHushed 32 = .ok (.if_icmp .ne 7, 3) := by decide +kernel
theorem dX8_areHushed_35 : decode cX8_areHushed 35 = .ok (.iconst 1, 1) := by decide +kernel
theorem dX8_areHushed_36 : decode cX8_areHushed 36 = .ok (.goto 4, 3) := by decide +kernel
theorem dX8_areHushed_39 : decode cX8_areHushed 39 = .ok (.iconst 0, 1) := by decide +kernel
theorem dX8_areHushed_40 : decode cX8_areHushed 40 = .ok (.ireturn, 1) := by decide +kernel
set_option maxRecDepth 20000 in
theorem ggX8_ownLight_X8_sings : GoodIn wsX8_ownLight wsX8_sings := goodIn_r _ [7, 2, 8, 9, 10, 6, 11, 12, 13, 14, 15, 16, 17, 18, 23, 24, 25, 26, 27, 28, 29, 30, 31, 32, 33, 34, 35, 36, 37, 38, 39, 40, 41, 42, 43, 44, 45, 46] (by decide +kernel) (by decide +kernel)
set_option maxRecDepth 20000 in
theorem gX8_ownLight_X8_sings : GoodIn wsX8_ownLight (wsV RX8 92 RX8 yX8_sings wsX8_sings) := goodIn_app (goodIn_of _ (by decide +kernel)) ggX8_ownLight_X8_sings
set_option maxRecDepth 20000 in
theorem ggX8_ownLight_X8_has : GoodIn wsX8_ownLight wsX8_has := goodIn_r _ [18] (by decide +kernel) (by decide +kernel)
set_option maxRecDepth 20000 in
theorem gX8_ownLight_X8_has : GoodIn wsX8_ownLight (va_wsS RX8 67 yX8_has wsX8_has) := goodIn_app (goodIn_of _ (by decide +kernel)) ggX8_ownLight_X8_has
set_option maxRecDepth 20000 in
theorem ggX8_ownLight_X8_areHushed : GoodIn wsX8_ownLight wsX8_areHushed := goodIn_r _ [22, 2, 23, 24, 25, 26, 27, 28, 29, 30, 31, 32, 33, 34, 35, 36, 37, 38, 39, 40, 41, 42, 43, 44, 45, 46] (by decide +kernel) (by decide +kernel)
set_option maxRecDepth 20000 in
theorem gX8_ownLight_X8_areHushed : GoodIn wsX8_ownLight (wsV RX8 95 RX8 yX8_areHushed wsX8_areHushed) := goodIn_app (goodIn_of _ (by decide +kernel)) ggX8_ownLight_X8_areHushed
theorem dX8_ownLight_0 : decode cX8_ownLight 0 = .ok (.iconst 0, 1) := by decide +kernel
theorem dX8_ownLight_1 : decode cX8_ownLight 1 = .ok (.istore_n 2, 1) := by decide +kernel
theorem dX8_ownLight_2 : decode cX8_ownLight 2 = .ok (.iconst 0, 1) := by decide +kernel
theorem dX8_ownLight_3 : decode cX8_ownLight 3 = .ok (.istore_n 3, 1) := by decide +kernel
theorem dX8_ownLight_4 : decode cX8_ownLight 4 = .ok (.iload_n 3, 1) := by decide +kernel
theorem dX8_ownLight_5 : decode cX8_ownLight 5 = .ok (.bipush 8, 2) := by decide +kernel
theorem dX8_ownLight_7 : decode cX8_ownLight 7 = .ok (.if_icmp .ge 112, 3) := by decide +kernel
theorem dX8_ownLight_10 : decode cX8_ownLight 10 = .ok (.aload_n 0, 1) := by decide +kernel
theorem dX8_ownLight_11 : decode cX8_ownLight 11 = .ok (.iload_n 3, 1) := by decide +kernel
theorem dX8_ownLight_12 : decode cX8_ownLight 12 = .ok (.iload_n 1, 1) := by decide +kernel
theorem dX8_ownLight_13 : decode cX8_ownLight 13 = .ok (.invokevirtual 92, 3) := by decide +kernel
theorem dX8_ownLight_16 : decode cX8_ownLight 16 = .ok (.istore 4, 2) := by decide +kernel
theorem dX8_ownLight_18 : decode cX8_ownLight 18 = .ok (.iconst 0, 1) := by decide +kernel
theorem dX8_ownLight_19 : decode cX8_ownLight 19 = .ok (.istore 5, 2) := by decide +kernel
theorem dX8_ownLight_21 : decode cX8_ownLight 21 = .ok (.iload 5, 2) := by decide +kernel
theorem dX8_ownLight_23 : decode cX8_ownLight 23 = .ok (.bipush 8, 2) := by decide +kernel
theorem dX8_ownLight_25 : decode cX8_ownLight 25 = .ok (.if_icmp .ge 58, 3) := by decide +kernel
theorem dX8_ownLight_28 : decode cX8_ownLight 28 = .ok (.iload 4, 2) := by decide +kernel
theorem dX8_ownLight_30 : decode cX8_ownLight 30 = .ok (.ifCond .eq 53, 3) := by decide +kernel
theorem dX8_ownLight_33 : decode cX8_ownLight 33 = .ok (.aload_n 0, 1) := by decide +kernel
theorem dX8_ownLight_34 : decode cX8_ownLight 34 = .ok (.getfield 79, 3) := by decide +kernel
theorem dX8_ownLight_37 : decode cX8_ownLight 37 = .ok (.iload_n 1, 1) := by decide +kernel
theorem dX8_ownLight_38 : decode cX8_ownLight 38 = .ok (.invokestatic 67, 3) := by decide +kernel
theorem dX8_ownLight_41 : decode cX8_ownLight 41 = .ok (.ifCond .eq 29, 3) := by decide +kernel
theorem dX8_ownLight_44 : decode cX8_ownLight 44 = .ok (.iload 5, 2) := by decide +kernel
theorem dX8_ownLight_46 : decode cX8_ownLight 46 = .ok (.iload_n 3, 1) := by decide +kernel
theorem dX8_ownLight_47 : decode cX8_ownLight 47 = .ok (.if_icmp .eq 23, 3) := by decide +kernel
theorem dX8_ownLight_50 : decode cX8_ownLight 50 = .ok (.aload_n 0, 1) := by decide +kernel
theorem dX8_ownLight_51 : decode cX8_ownLight 51 = .ok (.iload 5, 2) := by decide +kernel
theorem dX8_ownLight_53 : decode cX8_ownLight 53 = .ok (.iload_n 1, 1) := by decide +kernel
theorem dX8_ownLight_54 : decode cX8_ownLight 54 = .ok (.invokevirtual 92, 3) := by decide +kernel
theorem dX8_ownLight_57 : decode cX8_ownLight 57 = .ok (.ifCond .eq 13, 3) := by decide +kernel
theorem dX8_ownLight_60 : decode cX8_ownLight 60 = .ok (.aload_n 0, 1) := by decide +kernel
theorem dX8_ownLight_61 : decode cX8_ownLight 61 = .ok (.iload_n 3, 1) := by decide +kernel
theorem dX8_ownLight_62 : decode cX8_ownLight 62 = .ok (.iload 5, 2) := by decide +kernel
theorem dX8_ownLight_64 : decode cX8_ownLight 64 = .ok (.invokevirtual 95, 3) := by decide +kernel
theorem dX8_ownLight_67 : decode cX8_ownLight 67 = .ok (.ifCond .ne 7, 3) := by decide +kernel
theorem dX8_ownLight_70 : decode cX8_ownLight 70 = .ok (.iconst 1, 1) := by decide +kernel
theorem dX8_ownLight_71 : decode cX8_ownLight 71 = .ok (.goto 4, 3) := by decide +kernel
theorem dX8_ownLight_74 : decode cX8_ownLight 74 = .ok (.iconst 0, 1) := by decide +kernel
theorem dX8_ownLight_75 : decode cX8_ownLight 75 = .ok (.istore 4, 2) := by decide +kernel
theorem dX8_ownLight_77 : decode cX8_ownLight 77 = .ok (.iinc 5 1, 3) := by decide +kernel
theorem dX8_ownLight_80 : decode cX8_ownLight 80 = .ok (.goto (-59), 3) := by decide +kernel
theorem dX8_ownLight_83 : decode cX8_ownLight 83 = .ok (.iload 4, 2) := by decide +kernel
theorem dX8_ownLight_85 : decode cX8_ownLight 85 = .ok (.ifCond .eq 26, 3) := by decide +kernel
theorem dX8_ownLight_88 : decode cX8_ownLight 88 = .ok (.aload_n 0, 1) := by decide +kernel
theorem dX8_ownLight_89 : decode cX8_ownLight 89 = .ok (.getfield 13, 3) := by decide +kernel
theorem dX8_ownLight_92 : decode cX8_ownLight 92 = .ok (.iload_n 3, 1) := by decide +kernel
theorem dX8_ownLight_93 : decode cX8_ownLight 93 = .ok (.iaload, 1) := by decide +kernel
theorem dX8_ownLight_94 : decode cX8_ownLight 94 = .ok (.iconst 1, 1) := by decide +kernel
theorem dX8_ownLight_95 : decode cX8_ownLight 95 = .ok (.iadd, 1) := by decide +kernel
theorem dX8_ownLight_96 : decode cX8_ownLight 96 = .ok (.iload_n 2, 1) := by decide +kernel
theorem dX8_ownLight_97 : decode cX8_ownLight 97 = .ok (.if_icmp .le 14, 3) := by decide +kernel
theorem dX8_ownLight_100 : decode cX8_ownLight 100 = .ok (.aload_n 0, 1) := by decide +kernel
theorem dX8_ownLight_101 : decode cX8_ownLight 101 = .ok (.getfield 13, 3) := by decide +kernel
theorem dX8_ownLight_104 : decode cX8_ownLight 104 = .ok (.iload_n 3, 1) := by decide +kernel
theorem dX8_ownLight_105 : decode cX8_ownLight 105 = .ok (.iaload, 1) := by decide +kernel
theorem dX8_ownLight_106 : decode cX8_ownLight 106 = .ok (.iconst 1, 1) := by decide +kernel
theorem dX8_ownLight_107 : decode cX8_ownLight 107 = .ok (.iadd, 1) := by decide +kernel
theorem dX8_ownLight_108 : decode cX8_ownLight 108 = .ok (.goto 4, 3) := by decide +kernel
theorem dX8_ownLight_111 : decode cX8_ownLight 111 = .ok (.iload_n 2, 1) := by decide +kernel
theorem dX8_ownLight_112 : decode cX8_ownLight 112 = .ok (.istore_n 2, 1) := by decide +kernel
theorem dX8_ownLight_113 : decode cX8_ownLight 113 = .ok (.iinc 3 1, 3) := by decide +kernel
theorem dX8_ownLight_116 : decode cX8_ownLight 116 = .ok (.goto (-112), 3) := by decide +kernel
theorem dX8_ownLight_119 : decode cX8_ownLight 119 = .ok (.iload_n 2, 1) := by decide +kernel
theorem dX8_ownLight_120 : decode cX8_ownLight 120 = .ok (.ireturn, 1) := by decide +kernel
set_option maxRecDepth 20000 in
theorem ggX8_lightOf_X8_ownLight : GoodIn wsX8_lightOf wsX8_ownLight := goodIn_r _ [6, 7, 8, 9, 10, 11, 5, 12, 13, 14, 15, 16, 17, 18, 19, 20, 21, 22, 23, 24, 25, 26, 27, 28, 29, 30, 31, 32, 33, 34, 35, 36, 37, 38, 39, 40, 41, 42, 43, 44, 45, 46, 47, 48, 49, 50, 51] (by decide +kernel) (by decide +kernel)
set_option maxRecDepth 20000 in
theorem gX8_lightOf_X8_ownLight : GoodIn wsX8_lightOf (wsV RX8 98 RX8 yX8_ownLight wsX8_ownLight) := goodIn_app (goodIn_of _ (by decide +kernel)) ggX8_lightOf_X8_ownLight
theorem dX8_lightOf_0 : decode cX8_lightOf 0 = .ok (.aload_n 0, 1) := by decide +kernel
theorem dX8_lightOf_1 : decode cX8_lightOf 1 = .ok (.iload_n 1, 1) := by decide +kernel
theorem dX8_lightOf_2 : decode cX8_lightOf 2 = .ok (.invokevirtual 98, 3) := by decide +kernel
theorem dX8_lightOf_5 : decode cX8_lightOf 5 = .ok (.istore_n 2, 1) := by decide +kernel
theorem dX8_lightOf_6 : decode cX8_lightOf 6 = .ok (.iconst 0, 1) := by decide +kernel
theorem dX8_lightOf_7 : decode cX8_lightOf 7 = .ok (.istore_n 3, 1) := by decide +kernel
theorem dX8_lightOf_8 : decode cX8_lightOf 8 = .ok (.iload_n 3, 1) := by decide +kernel
theorem dX8_lightOf_9 : decode cX8_lightOf 9 = .ok (.bipush 10, 2) := by decide +kernel
theorem dX8_lightOf_11 : decode cX8_lightOf 11 = .ok (.if_icmp .ge 46, 3) := by decide +kernel
theorem dX8_lightOf_14 : decode cX8_lightOf 14 = .ok (.iload_n 3, 1) := by decide +kernel
theorem dX8_lightOf_15 : decode cX8_lightOf 15 = .ok (.iload_n 1, 1) := by decide +kernel
theorem dX8_lightOf_16 : decode cX8_lightOf 16 = .ok (.if_icmp .eq 35, 3) := by decide +kernel
theorem dX8_lightOf_19 : decode cX8_lightOf 19 = .ok (.aload_n 0, 1) := by decide +kernel
theorem dX8_lightOf_20 : decode cX8_lightOf 20 = .ok (.getfield 28, 3) := by decide +kernel
theorem dX8_lightOf_23 : decode cX8_lightOf 23 = .ok (.iload_n 3, 1) := by decide +kernel
theorem dX8_lightOf_24 : decode cX8_lightOf 24 = .ok (.iaload, 1) := by decide +kernel
theorem dX8_lightOf_25 : decode cX8_lightOf 25 = .ok (.iload_n 1, 1) := by decide +kernel
theorem dX8_lightOf_26 : decode cX8_lightOf 26 = .ok (.if_icmp .ne 25, 3) := by decide +kernel
theorem dX8_lightOf_29 : decode cX8_lightOf 29 = .ok (.aload_n 0, 1) := by decide +kernel
theorem dX8_lightOf_30 : decode cX8_lightOf 30 = .ok (.iload_n 3, 1) := by decide +kernel
theorem dX8_lightOf_31 : decode cX8_lightOf 31 = .ok (.invokevirtual 98, 3) := by decide +kernel
theorem dX8_lightOf_34 : decode cX8_lightOf 34 = .ok (.iconst 2, 1) := by decide +kernel
theorem dX8_lightOf_35 : decode cX8_lightOf 35 = .ok (.idiv, 1) := by decide +kernel
theorem dX8_lightOf_36 : decode cX8_lightOf 36 = .ok (.istore 4, 2) := by decide +kernel
theorem dX8_lightOf_38 : decode cX8_lightOf 38 = .ok (.iload 4, 2) := by decide +kernel
theorem dX8_lightOf_40 : decode cX8_lightOf 40 = .ok (.iload_n 2, 1) := by decide +kernel
theorem dX8_lightOf_41 : decode cX8_lightOf 41 = .ok (.if_icmp .le 8, 3) := by decide +kernel
theorem dX8_lightOf_44 : decode cX8_lightOf 44 = .ok (.iload 4, 2) := by decide +kernel
theorem dX8_lightOf_46 : decode cX8_lightOf 46 = .ok (.goto 4, 3) := by decide +kernel
theorem dX8_lightOf_49 : decode cX8_lightOf 49 = .ok (.iload_n 2, 1) := by decide +kernel
theorem dX8_lightOf_50 : decode cX8_lightOf 50 = .ok (.istore_n 2, 1) := by decide +kernel
theorem dX8_lightOf_51 : decode cX8_lightOf 51 = .ok (.iinc 3 1, 3) := by decide +kernel
theorem dX8_lightOf_54 : decode cX8_lightOf 54 = .ok (.goto (-46), 3) := by decide +kernel
theorem dX8_lightOf_57 : decode cX8_lightOf 57 = .ok (.iload_n 2, 1) := by decide +kernel
theorem dX8_lightOf_58 : decode cX8_lightOf 58 = .ok (.ireturn, 1) := by decide +kernel
set_option maxRecDepth 20000 in
theorem ggX8_lamps_X8_lightOf : GoodIn wsX8_lamps wsX8_lightOf := goodIn_r _ [5, 6, 7, 8, 9, 4, 10, 11, 12, 13, 14, 15, 16, 17, 18, 19, 20, 21, 22, 23, 24, 25, 26, 27, 28, 29, 30, 31, 32, 33, 34, 35, 36, 37, 38, 39, 40, 41, 42, 43, 44, 45, 46, 47, 48, 49, 50, 51, 52, 53, 54, 55] (by decide +kernel) (by decide +kernel)
set_option maxRecDepth 20000 in
theorem gX8_lamps_X8_lightOf : GoodIn wsX8_lamps (wsV RX8 101 RX8 yX8_lightOf wsX8_lightOf) := goodIn_app (goodIn_of _ (by decide +kernel)) ggX8_lamps_X8_lightOf
theorem dX8_lamps_0 : decode cX8_lamps 0 = .ok (.iconst 0, 1) := by decide +kernel
theorem dX8_lamps_1 : decode cX8_lamps 1 = .ok (.istore_n 1, 1) := by decide +kernel
theorem dX8_lamps_2 : decode cX8_lamps 2 = .ok (.iconst 0, 1) := by decide +kernel
theorem dX8_lamps_3 : decode cX8_lamps 3 = .ok (.istore_n 2, 1) := by decide +kernel
theorem dX8_lamps_4 : decode cX8_lamps 4 = .ok (.iload_n 2, 1) := by decide +kernel
theorem dX8_lamps_5 : decode cX8_lamps 5 = .ok (.bipush 10, 2) := by decide +kernel
theorem dX8_lamps_7 : decode cX8_lamps 7 = .ok (.if_icmp .ge 27, 3) := by decide +kernel
theorem dX8_lamps_10 : decode cX8_lamps 10 = .ok (.iload_n 1, 1) := by decide +kernel
theorem dX8_lamps_11 : decode cX8_lamps 11 = .ok (.aload_n 0, 1) := by decide +kernel
theorem dX8_lamps_12 : decode cX8_lamps 12 = .ok (.iload_n 2, 1) := by decide +kernel
theorem dX8_lamps_13 : decode cX8_lamps 13 = .ok (.invokevirtual 101, 3) := by decide +kernel
theorem dX8_lamps_16 : decode cX8_lamps 16 = .ok (.ifCond .le 9, 3) := by decide +kernel
theorem dX8_lamps_19 : decode cX8_lamps 19 = .ok (.iconst 1, 1) := by decide +kernel
theorem dX8_lamps_20 : decode cX8_lamps 20 = .ok (.iload_n 2, 1) := by decide +kernel
theorem dX8_lamps_21 : decode cX8_lamps 21 = .ok (.ishl, 1) := by decide +kernel
theorem dX8_lamps_22 : decode cX8_lamps 22 = .ok (.goto 4, 3) := by decide +kernel
theorem dX8_lamps_25 : decode cX8_lamps 25 = .ok (.iconst 0, 1) := by decide +kernel
theorem dX8_lamps_26 : decode cX8_lamps 26 = .ok (.ior, 1) := by decide +kernel
theorem dX8_lamps_27 : decode cX8_lamps 27 = .ok (.istore_n 1, 1) := by decide +kernel
theorem dX8_lamps_28 : decode cX8_lamps 28 = .ok (.iinc 2 1, 3) := by decide +kernel
theorem dX8_lamps_31 : decode cX8_lamps 31 = .ok (.goto (-27), 3) := by decide +kernel
theorem dX8_lamps_34 : decode cX8_lamps 34 = .ok (.iload_n 1, 1) := by decide +kernel
theorem dX8_lamps_35 : decode cX8_lamps 35 = .ok (.ireturn, 1) := by decide +kernel
theorem dX8_asNow_0 : decode cX8_asNow 0 = .ok (.iconst 0, 1) := by decide +kernel
theorem dX8_asNow_1 : decode cX8_asNow 1 = .ok (.istore_n 1, 1) := by decide +kernel
theorem dX8_asNow_2 : decode cX8_asNow 2 = .ok (.iload_n 1, 1) := by decide +kernel
theorem dX8_asNow_3 : decode cX8_asNow 3 = .ok (.bipush 36, 2) := by decide +kernel
theorem dX8_asNow_5 : decode cX8_asNow 5 = .ok (.if_icmp .ge 21, 3) := by decide +kernel
theorem dX8_asNow_8 : decode cX8_asNow 8 = .ok (.aload_n 0, 1) := by decide +kernel
theorem dX8_asNow_9 : decode cX8_asNow 9 = .ok (.getfield 13, 3) := by decide +kernel
theorem dX8_asNow_12 : decode cX8_asNow 12 = .ok (.iload_n 1, 1) := by decide +kernel
theorem dX8_asNow_13 : decode cX8_asNow 13 = .ok (.aload_n 0, 1) := by decide +kernel
theorem dX8_asNow_14 : decode cX8_asNow 14 = .ok (.getfield 7, 3) := by decide +kernel
theorem dX8_asNow_17 : decode cX8_asNow 17 = .ok (.iload_n 1, 1) := by decide +kernel
theorem dX8_asNow_18 : decode cX8_asNow 18 = .ok (.iaload, 1) := by decide +kernel
theorem dX8_asNow_19 : decode cX8_asNow 19 = .ok (.iastore, 1) := by decide +kernel
theorem dX8_asNow_20 : decode cX8_asNow 20 = .ok (.iinc 1 1, 3) := by decide +kernel
theorem dX8_asNow_23 : decode cX8_asNow 23 = .ok (.goto (-21), 3) := by decide +kernel
theorem dX8_asNow_26 : decode cX8_asNow 26 = .ok (.aload_n 0, 1) := by decide +kernel
theorem dX8_asNow_27 : decode cX8_asNow 27 = .ok (.bipush (-6), 2) := by decide +kernel
theorem dX8_asNow_29 : decode cX8_asNow 29 = .ok (.putfield 104, 3) := by decide +kernel
theorem dX8_asNow_32 : decode cX8_asNow 32 = .ok (.aload_n 0, 1) := by decide +kernel
theorem dX8_asNow_33 : decode cX8_asNow 33 = .ok (.bipush (-6), 2) := by decide +kernel
theorem dX8_asNow_35 : decode cX8_asNow 35 = .ok (.putfield 107, 3) := by decide +kernel
theorem dX8_asNow_38 : decode cX8_asNow 38 = .ok (.return_, 1) := by decide +kernel
set_option maxRecDepth 20000 in
theorem ggX8_sing_X8_isThere : GoodIn wsX8_sing wsX8_isThere := goodIn_r _ [8, 9, 10, 11, 7, 12, 13, 14, 15, 16, 17, 18, 19, 20, 21, 22, 23, 24, 25, 26, 27, 28, 29, 30, 31, 32, 33, 34, 35, 36, 37, 38, 39] (by decide +kernel) (by decide +kernel)
set_option maxRecDepth 20000 in
theorem gX8_sing_X8_isThere : GoodIn wsX8_sing (wsV RX8 82 RX8 yX8_isThere wsX8_isThere) := goodIn_app (goodIn_of _ (by decide +kernel)) ggX8_sing_X8_isThere
set_option maxRecDepth 20000 in
theorem ggX8_sing_X8_in : GoodIn wsX8_sing wsX8_in := goodIn_r _ [12] (by decide +kernel) (by decide +kernel)
set_option maxRecDepth 20000 in
theorem gX8_sing_X8_in : GoodIn wsX8_sing (va_wsS RX8 59 yX8_in wsX8_in) := goodIn_app (goodIn_of _ (by decide +kernel)) ggX8_sing_X8_in
theorem dX8_sing_0 : decode cX8_sing 0 = .ok (.aload_n 0, 1) := by decide +kernel
theorem dX8_sing_1 : decode cX8_sing 1 = .ok (.iload_n 1, 1) := by decide +kernel
theorem dX8_sing_2 : decode cX8_sing 2 = .ok (.invokevirtual 82, 3) := by decide +kernel
theorem dX8_sing_5 : decode cX8_sing 5 = .ok (.ifCond .ne 5, 3) := by decide +kernel
theorem dX8_sing_8 : decode cX8_sing 8 = .ok (.iconst 1, 1) := by decide +kernel
theorem dX8_sing_9 : decode cX8_sing 9 = .ok (.ireturn, 1) := by decide +kernel
theorem dX8_sing_10 : decode cX8_sing 10 = .ok (.iload_n 2, 1) := by decide +kernel
theorem dX8_sing_11 : decode cX8_sing 11 = .ok (.aload_n 0, 1) := by decide +kernel
theorem dX8_sing_12 : decode cX8_sing 12 = .ok (.getfield 16, 3) := by decide +kernel
theorem dX8_sing_15 : decode cX8_sing 15 = .ok (.iload_n 1, 1) := by decide +kernel
theorem dX8_sing_16 : decode cX8_sing 16 = .ok (.iaload, 1) := by decide +kernel
theorem dX8_sing_17 : decode cX8_sing 17 = .ok (.aload_n 0, 1) := by decide +kernel
theorem dX8_sing_18 : decode cX8_sing 18 = .ok (.getfield 19, 3) := by decide +kernel
theorem dX8_sing_21 : decode cX8_sing 21 = .ok (.iload_n 1, 1) := by decide +kernel
theorem dX8_sing_22 : decode cX8_sing 22 = .ok (.iaload, 1) := by decide +kernel
theorem dX8_sing_23 : decode cX8_sing 23 = .ok (.invokestatic 59, 3) := by decide +kernel
theorem dX8_sing_26 : decode cX8_sing 26 = .ok (.ifCond .ne 5, 3) := by decide +kernel
theorem dX8_sing_29 : decode cX8_sing 29 = .ok (.iconst 2, 1) := by decide +kernel
theorem dX8_sing_30 : decode cX8_sing 30 = .ok (.ireturn, 1) := by decide +kernel
theorem dX8_sing_31 : decode cX8_sing 31 = .ok (.aload_n 0, 1) := by decide +kernel
theorem dX8_sing_32 : decode cX8_sing 32 = .ok (.getfield 13, 3) := by decide +kernel
theorem dX8_sing_35 : decode cX8_sing 35 = .ok (.iload_n 1, 1) := by decide +kernel
theorem dX8_sing_36 : decode cX8_sing 36 = .ok (.iaload, 1) := by decide +kernel
theorem dX8_sing_37 : decode cX8_sing 37 = .ok (.iload_n 2, 1) := by decide +kernel
theorem dX8_sing_38 : decode cX8_sing 38 = .ok (.if_icmp .ne 5, 3) := by decide +kernel
theorem dX8_sing_41 : decode cX8_sing 41 = .ok (.iconst 3, 1) := by decide +kernel
theorem dX8_sing_42 : decode cX8_sing 42 = .ok (.ireturn, 1) := by decide +kernel
theorem dX8_sing_43 : decode cX8_sing 43 = .ok (.aload_n 0, 1) := by decide +kernel
theorem dX8_sing_44 : decode cX8_sing 44 = .ok (.getfield 13, 3) := by decide +kernel
theorem dX8_sing_47 : decode cX8_sing 47 = .ok (.bipush 8, 2) := by decide +kernel
theorem dX8_sing_49 : decode cX8_sing 49 = .ok (.iload_n 1, 1) := by decide +kernel
theorem dX8_sing_50 : decode cX8_sing 50 = .ok (.iadd, 1) := by decide +kernel
theorem dX8_sing_51 : decode cX8_sing 51 = .ok (.iaload, 1) := by decide +kernel
theorem dX8_sing_52 : decode cX8_sing 52 = .ok (.ifCond .ne 5, 3) := by decide +kernel
theorem dX8_sing_55 : decode cX8_sing 55 = .ok (.iconst 4, 1) := by decide +kernel
theorem dX8_sing_56 : decode cX8_sing 56 = .ok (.ireturn, 1) := by decide +kernel
theorem dX8_sing_57 : decode cX8_sing 57 = .ok (.aload_n 0, 1) := by decide +kernel
theorem dX8_sing_58 : decode cX8_sing 58 = .ok (.getfield 13, 3) := by decide +kernel
theorem dX8_sing_61 : decode cX8_sing 61 = .ok (.iload_n 1, 1) := by decide +kernel
theorem dX8_sing_62 : decode cX8_sing 62 = .ok (.iload_n 2, 1) := by decide +kernel
theorem dX8_sing_63 : decode cX8_sing 63 = .ok (.iastore, 1) := by decide +kernel
theorem dX8_sing_64 : decode cX8_sing 64 = .ok (.iconst 0, 1) := by decide +kernel
theorem dX8_sing_65 : decode cX8_sing 65 = .ok (.ireturn, 1) := by decide +kernel
set_option maxRecDepth 20000 in
theorem ggX8_hush_X8_isThere : GoodIn wsX8_hush wsX8_isThere := goodIn_r _ [6, 7, 8, 9, 5, 10, 11, 12, 13, 14, 15, 16, 17, 18, 19, 20, 21, 22, 23, 24, 25, 26, 27, 28, 29, 30, 31, 32, 33, 34, 35, 36, 37] (by decide +kernel) (by decide +kernel)
set_option maxRecDepth 20000 in
theorem gX8_hush_X8_isThere : GoodIn wsX8_hush (wsV RX8 82 RX8 yX8_isThere wsX8_isThere) := goodIn_app (goodIn_of _ (by decide +kernel)) ggX8_hush_X8_isThere
theorem dX8_hush_0 : decode cX8_hush 0 = .ok (.aload_n 0, 1) := by decide +kernel
theorem dX8_hush_1 : decode cX8_hush 1 = .ok (.iload_n 1, 1) := by decide +kernel
theorem dX8_hush_2 : decode cX8_hush 2 = .ok (.invokevirtual 82, 3) := by decide +kernel
theorem dX8_hush_5 : decode cX8_hush 5 = .ok (.ifCond .ne 5, 3) := by decide +kernel
theorem dX8_hush_8 : decode cX8_hush 8 = .ok (.iconst 1, 1) := by decide +kernel
theorem dX8_hush_9 : decode cX8_hush 9 = .ok (.ireturn, 1) := by decide +kernel
theorem dX8_hush_10 : decode cX8_hush 10 = .ok (.aload_n 0, 1) := by decide +kernel
theorem dX8_hush_11 : decode cX8_hush 11 = .ok (.getfield 13, 3) := by decide +kernel
theorem dX8_hush_14 : decode cX8_hush 14 = .ok (.iload_n 1, 1) := by decide +kernel
theorem dX8_hush_15 : decode cX8_hush 15 = .ok (.iaload, 1) := by decide +kernel
theorem dX8_hush_16 : decode cX8_hush 16 = .ok (.ifCond .ge 5, 3) := by decide +kernel
theorem dX8_hush_19 : decode cX8_hush 19 = .ok (.iconst 3, 1) := by decide +kernel
theorem dX8_hush_20 : decode cX8_hush 20 = .ok (.ireturn, 1) := by decide +kernel
theorem dX8_hush_21 : decode cX8_hush 21 = .ok (.aload_n 0, 1) := by decide +kernel
theorem dX8_hush_22 : decode cX8_hush 22 = .ok (.getfield 13, 3) := by decide +kernel
theorem dX8_hush_25 : decode cX8_hush 25 = .ok (.iload_n 1, 1) := by decide +kernel
theorem dX8_hush_26 : decode cX8_hush 26 = .ok (.bipush (-6), 2) := by decide +kernel
theorem dX8_hush_28 : decode cX8_hush 28 = .ok (.iastore, 1) := by decide +kernel
theorem dX8_hush_29 : decode cX8_hush 29 = .ok (.iconst 0, 1) := by decide +kernel
theorem dX8_hush_30 : decode cX8_hush 30 = .ok (.ireturn, 1) := by decide +kernel
set_option maxRecDepth 20000 in
theorem ggX8_go_X8_isThere : GoodIn wsX8_go wsX8_isThere := goodIn_r _ [7, 8, 9, 10, 6, 11, 12, 13, 14, 15, 16, 17, 18, 19, 20, 21, 22, 23, 24, 25, 26, 27, 28, 29, 30, 31, 32, 33, 34, 35, 36, 37, 38] (by decide +kernel) (by decide +kernel)
set_option maxRecDepth 20000 in
theorem gX8_go_X8_isThere : GoodIn wsX8_go (wsV RX8 82 RX8 yX8_isThere wsX8_isThere) := goodIn_app (goodIn_of _ (by decide +kernel)) ggX8_go_X8_isThere
set_option maxRecDepth 20000 in
theorem ggX8_go_X8_has : GoodIn wsX8_go wsX8_has := goodIn_r _ [14] (by decide +kernel) (by decide +kernel)
set_option maxRecDepth 20000 in
theorem gX8_go_X8_has : GoodIn wsX8_go (va_wsS RX8 67 yX8_has wsX8_has) := goodIn_app (goodIn_of _ (by decide +kernel)) ggX8_go_X8_has
theorem dX8_go_0 : decode cX8_go 0 = .ok (.aload_n 0, 1) := by decide +kernel
theorem dX8_go_1 : decode cX8_go 1 = .ok (.iload_n 1, 1) := by decide +kernel
theorem dX8_go_2 : decode cX8_go 2 = .ok (.invokevirtual 82, 3) := by decide +kernel
theorem dX8_go_5 : decode cX8_go 5 = .ok (.ifCond .ne 5, 3) := by decide +kernel
theorem dX8_go_8 : decode cX8_go 8 = .ok (.iconst 1, 1) := by decide +kernel
theorem dX8_go_9 : decode cX8_go 9 = .ok (.ireturn, 1) := by decide +kernel
theorem dX8_go_10 : decode cX8_go 10 = .ok (.aload_n 0, 1) := by decide +kernel
theorem dX8_go_11 : decode cX8_go 11 = .ok (.getfield 13, 3) := by decide +kernel
theorem dX8_go_14 : decode cX8_go 14 = .ok (.bipush 16, 2) := by decide +kernel
theorem dX8_go_16 : decode cX8_go 16 = .ok (.iload_n 1, 1) := by decide +kernel
theorem dX8_go_17 : decode cX8_go 17 = .ok (.iadd, 1) := by decide +kernel
theorem dX8_go_18 : decode cX8_go 18 = .ok (.iaload, 1) := by decide +kernel
theorem dX8_go_19 : decode cX8_go 19 = .ok (.istore_n 3, 1) := by decide +kernel
theorem dX8_go_20 : decode cX8_go 20 = .ok (.aload_n 0, 1) := by decide +kernel
theorem dX8_go_21 : decode cX8_go 21 = .ok (.getfield 25, 3) := by decide +kernel
theorem dX8_go_24 : decode cX8_go 24 = .ok (.iload_n 3, 1) := by decide +kernel
theorem dX8_go_25 : decode cX8_go 25 = .ok (.iaload, 1) := by decide +kernel
theorem dX8_go_26 : decode cX8_go 26 = .ok (.iload_n 2, 1) := by decide +kernel
theorem dX8_go_27 : decode cX8_go 27 = .ok (.invokestatic 67, 3) := by decide +kernel
theorem dX8_go_30 : decode cX8_go 30 = .ok (.ifCond .ne 5, 3) := by decide +kernel
theorem dX8_go_33 : decode cX8_go 33 = .ok (.iconst 5, 1) := by decide +kernel
theorem dX8_go_34 : decode cX8_go 34 = .ok (.ireturn, 1) := by decide +kernel
theorem dX8_go_35 : decode cX8_go 35 = .ok (.aload_n 0, 1) := by decide +kernel
theorem dX8_go_36 : decode cX8_go 36 = .ok (.getfield 13, 3) := by decide +kernel
theorem dX8_go_39 : decode cX8_go 39 = .ok (.bipush 34, 2) := by decide +kernel
theorem dX8_go_41 : decode cX8_go 41 = .ok (.iaload, 1) := by decide +kernel
theorem dX8_go_42 : decode cX8_go 42 = .ok (.iload_n 3, 1) := by decide +kernel
theorem dX8_go_43 : decode cX8_go 43 = .ok (.invokestatic 67, 3) := by decide +kernel
theorem dX8_go_46 : decode cX8_go 46 = .ok (.ifCond .ne 17, 3) := by decide +kernel
theorem dX8_go_49 : decode cX8_go 49 = .ok (.aload_n 0, 1) := by decide +kernel
theorem dX8_go_50 : decode cX8_go 50 = .ok (.getfield 13, 3) := by decide +kernel
theorem dX8_go_53 : decode cX8_go 53 = .ok (.bipush 34, 2) := by decide +kernel
theorem dX8_go_55 : decode cX8_go 55 = .ok (.iaload, 1) := by decide +kernel
theorem dX8_go_56 : decode cX8_go 56 = .ok (.iload_n 2, 1) := by decide +kernel
theorem dX8_go_57 : decode cX8_go 57 = .ok (.invokestatic 67, 3) := by decide +kernel
theorem dX8_go_60 : decode cX8_go 60 = .ok (.ifCond .eq 6, 3) := by decide +kernel
theorem dX8_go_63 : decode cX8_go 63 = .ok (.bipush 6, 2) := by decide +kernel
theorem dX8_go_65 : decode cX8_go 65 = .ok (.ireturn, 1) := by decide +kernel
theorem dX8_go_66 : decode cX8_go 66 = .ok (.aload_n 0, 1) := by decide +kernel
theorem dX8_go_67 : decode cX8_go 67 = .ok (.getfield 13, 3) := by decide +kernel
theorem dX8_go_70 : decode cX8_go 70 = .ok (.bipush 16, 2) := by decide +kernel
theorem dX8_go_72 : decode cX8_go 72 = .ok (.iload_n 1, 1) := by decide +kernel
theorem dX8_go_73 : decode cX8_go 73 = .ok (.iadd, 1) := by decide +kernel
theorem dX8_go_74 : decode cX8_go 74 = .ok (.iload_n 2, 1) := by decide +kernel
theorem dX8_go_75 : decode cX8_go 75 = .ok (.iastore, 1) := by decide +kernel
theorem dX8_go_76 : decode cX8_go 76 = .ok (.iconst 0, 1) := by decide +kernel
theorem dX8_go_77 : decode cX8_go 77 = .ok (.ireturn, 1) := by decide +kernel
set_option maxRecDepth 20000 in
theorem ggX8_beat_X8_lightOf : GoodIn wsX8_beat wsX8_lightOf := goodIn_r _ [8, 9, 10, 11, 12, 7, 13, 14, 1, 15, 16, 17, 18, 19, 20, 21, 22, 23, 24, 25, 26, 27, 28, 29, 30, 31, 32, 33, 34, 35, 36, 37, 38, 39, 40, 41, 42, 43, 44, 45, 46, 47, 48, 49, 50, 51, 52, 53, 54, 55, 56, 57] (by decide +kernel) (by decide +kernel)
set_option maxRecDepth 20000 in
theorem gX8_beat_X8_lightOf : GoodIn wsX8_beat (wsV RX8 101 RX8 yX8_lightOf wsX8_lightOf) := goodIn_app (goodIn_of _ (by decide +kernel)) ggX8_beat_X8_lightOf
set_option maxRecDepth 20000 in
theorem ggX8_beat_X8_isThere : GoodIn wsX8_beat wsX8_isThere := goodIn_r _ [22, 23, 24, 25, 7, 26, 27, 28, 29, 34, 35, 36, 37, 38, 39, 40, 41, 42, 43, 44, 45, 46, 47, 48, 49, 50, 51, 52, 53, 54, 55, 56, 57] (by decide +kernel) (by decide +kernel)
set_option maxRecDepth 20000 in
theorem gX8_beat_X8_isThere : GoodIn wsX8_beat (wsV RX8 82 RX8 yX8_isThere wsX8_isThere) := goodIn_app (goodIn_of _ (by decide +kernel)) ggX8_beat_X8_isThere
theorem dX8_beat_0 : decode cX8_beat 0 = .ok (.aload_n 0, 1) := by decide +kernel
theorem dX8_beat_1 : decode cX8_beat 1 = .ok (.getfield 13, 3) := by decide +kernel
theorem dX8_beat_4 : decode cX8_beat 4 = .ok (.bipush 35, 2) := by decide +kernel
theorem dX8_beat_6 : decode cX8_beat 6 = .ok (.iaload, 1) := by decide +kernel
theorem dX8_beat_7 : decode cX8_beat 7 = .ok (.sipush 999, 3) := by decide +kernel
theorem dX8_beat_10 : decode cX8_beat 10 = .ok (.if_icmp .ne 6, 3) := by decide +kernel
theorem dX8_beat_13 : decode cX8_beat 13 = .ok (.bipush 7, 2) := by decide +kernel
theorem dX8_beat_15 : decode cX8_beat 15 = .ok (.ireturn, 1) := by decide +kernel
theorem dX8_beat_16 : decode cX8_beat 16 = .ok (.aload_n 0, 1) := by decide +kernel
theorem dX8_beat_17 : decode cX8_beat 17 = .ok (.getfield 13, 3) := by decide +kernel
theorem dX8_beat_20 : decode cX8_beat 20 = .ok (.bipush 35, 2) := by decide +kernel
theorem dX8_beat_22 : decode cX8_beat 22 = .ok (.dup2, 1) := by decide +kernel
theorem dX8_beat_23 : decode cX8_beat 23 = .ok (.iaload, 1) := by decide +kernel
theorem dX8_beat_24 : decode cX8_beat 24 = .ok (.iconst 1, 1) := by decide +kernel
theorem dX8_beat_25 : decode cX8_beat 25 = .ok (.iadd, 1) := by decide +kernel
theorem dX8_beat_26 : decode cX8_beat 26 = .ok (.iastore, 1) := by decide +kernel
theorem dX8_beat_27 : decode cX8_beat 27 = .ok (.iconst 0, 1) := by decide +kernel
theorem dX8_beat_28 : decode cX8_beat 28 = .ok (.istore_n 1, 1) := by decide +kernel
theorem dX8_beat_29 : decode cX8_beat 29 = .ok (.iload_n 1, 1) := by decide +kernel
theorem dX8_beat_30 : decode cX8_beat 30 = .ok (.bipush 10, 2) := by decide +kernel
theorem dX8_beat_32 : decode cX8_beat 32 = .ok (.if_icmp .ge 20, 3) := by decide +kernel
theorem dX8_beat_35 : decode cX8_beat 35 = .ok (.aload_n 0, 1) := by decide +kernel
theorem dX8_beat_36 : decode cX8_beat 36 = .ok (.getfield 37, 3) := by decide +kernel
theorem dX8_beat_39 : decode cX8_beat 39 = .ok (.iload_n 1, 1) := by decide +kernel
theorem dX8_beat_40 : decode cX8_beat 40 = .ok (.aload_n 0, 1) := by decide +kernel
theorem dX8_beat_41 : decode cX8_beat 41 = .ok (.iload_n 1, 1) := by decide +kernel
theorem dX8_beat_42 : decode cX8_beat 42 = .ok (.invokevirtual 101, 3) := by decide +kernel
theorem dX8_beat_45 : decode cX8_beat 45 = .ok (.iastore, 1) := by decide +kernel
theorem dX8_beat_46 : decode cX8_beat 46 = .ok (.iinc 1 1, 3) := by decide +kernel
theorem dX8_beat_49 : decode cX8_beat 49 = .ok (.goto (-20), 3) := by decide +kernel
theorem dX8_beat_52 : decode cX8_beat 52 = .ok (.iconst 0, 1) := by decide +kernel
theorem dX8_beat_53 : decode cX8_beat 53 = .ok (.istore_n 1, 1) := by decide +kernel
theorem dX8_beat_54 : decode cX8_beat 54 = .ok (.iload_n 1, 1) := by decide +kernel
theorem dX8_beat_55 : decode cX8_beat 55 = .ok (.bipush 8, 2) := by decide +kernel
theorem dX8_beat_57 : decode cX8_beat 57 = .ok (.if_icmp .ge 165, 3) := by decide +kernel
theorem dX8_beat_60 : decode cX8_beat 60 = .ok (.aload_n 0, 1) := by decide +kernel
theorem dX8_beat_61 : decode cX8_beat 61 = .ok (.getfield 13, 3) := by decide +kernel
theorem dX8_beat_64 : decode cX8_beat 64 = .ok (.bipush 16, 2) := by decide +kernel
theorem dX8_beat_66 : decode cX8_beat 66 = .ok (.iload_n 1, 1) := by decide +kernel
theorem dX8_beat_67 : decode cX8_beat 67 = .ok (.iadd, 1) := by decide +kernel
theorem dX8_beat_68 : decode cX8_beat 68 = .ok (.iaload, 1) := by decide +kernel
theorem dX8_beat_69 : decode cX8_beat 69 = .ok (.istore_n 2, 1) := by decide +kernel
theorem dX8_beat_70 : decode cX8_beat 70 = .ok (.aload_n 0, 1) := by decide +kernel
theorem dX8_beat_71 : decode cX8_beat 71 = .ok (.iload_n 1, 1) := by decide +kernel
theorem dX8_beat_72 : decode cX8_beat 72 = .ok (.invokevirtual 82, 3) := by decide +kernel
theorem dX8_beat_75 : decode cX8_beat 75 = .ok (.ifCond .eq 91, 3) := by decide +kernel
theorem dX8_beat_78 : decode cX8_beat 78 = .ok (.aload_n 0, 1) := by decide +kernel
theorem dX8_beat_79 : decode cX8_beat 79 = .ok (.getfield 13, 3) := by decide +kernel
theorem dX8_beat_82 : decode cX8_beat 82 = .ok (.iload_n 1, 1) := by decide +kernel
theorem dX8_beat_83 : decode cX8_beat 83 = .ok (.iaload, 1) := by decide +kernel
theorem dX8_beat_84 : decode cX8_beat 84 = .ok (.ifCond .ge 82, 3) := by decide +kernel
theorem dX8_beat_87 : decode cX8_beat 87 = .ok (.aload_n 0, 1) := by decide +kernel
theorem dX8_beat_88 : decode cX8_beat 88 = .ok (.getfield 13, 3) := by decide +kernel
theorem dX8_beat_91 : decode cX8_beat 91 = .ok (.bipush 24, 2) := by decide +kernel
theorem dX8_beat_93 : decode cX8_beat 93 = .ok (.iload_n 2, 1) := by decide +kernel
theorem dX8_beat_94 : decode cX8_beat 94 = .ok (.iadd, 1) := by decide +kernel
theorem dX8_beat_95 : decode cX8_beat 95 = .ok (.dup2, 1) := by decide +kernel
theorem dX8_beat_96 : decode cX8_beat 96 = .ok (.iaload, 1) := by decide +kernel
theorem dX8_beat_97 : decode cX8_beat 97 = .ok (.aload_n 0, 1) := by decide +kernel
theorem dX8_beat_98 : decode cX8_beat 98 = .ok (.getfield 37, 3) := by decide +kernel
theorem dX8_beat_101 : decode cX8_beat 101 = .ok (.iload_n 2, 1) := by decide +kernel
theorem dX8_beat_102 : decode cX8_beat 102 = .ok (.iaload, 1) := by decide +kernel
theorem dX8_beat_103 : decode cX8_beat 103 = .ok (.bipush 8, 2) := by decide +kernel
theorem dX8_beat_105 : decode cX8_beat 105 = .ok (.if_icmp .le 7, 3) := by decide +kernel
theorem dX8_beat_108 : decode cX8_beat 108 = .ok (.iconst 2, 1) := by decide +kernel
theorem dX8_beat_109 : decode cX8_beat 109 = .ok (.goto 17, 3) := by decide +kernel
theorem dX8_beat_112 : decode cX8_beat 112 = .ok (.aload_n 0, 1) := by decide +kernel
theorem dX8_beat_113 : decode cX8_beat 113 = .ok (.getfield 37, 3) := by decide +kernel
theorem dX8_beat_116 : decode cX8_beat 116 = .ok (.iload_n 2, 1) := by decide +kernel
theorem dX8_beat_117 : decode cX8_beat 117 = .ok (.iaload, 1) := by decide +kernel
theorem dX8_beat_118 : decode cX8_beat 118 = .ok (.ifCond .le 7, 3) := by decide +kernel
theorem dX8_beat_121 : decode cX8_beat 121 = .ok (.iconst 1, 1) := by decide +kernel
theorem dX8_beat_122 : decode cX8_beat 122 = .ok (.goto 4, 3) := by decide +kernel
theorem dX8_beat_125 : decode cX8_beat 125 = .ok (.iconst 0, 1) := by decide +kernel
theorem dX8_beat_126 : decode cX8_beat 126 = .ok (.iadd, 1) := by decide +kernel
theorem dX8_beat_127 : decode cX8_beat 127 = .ok (.iastore, 1) := by decide +kernel
theorem dX8_beat_128 : decode cX8_beat 128 = .ok (.aload_n 0, 1) := by decide +kernel
theorem dX8_beat_129 : decode cX8_beat 129 = .ok (.getfield 13, 3) := by decide +kernel
theorem dX8_beat_132 : decode cX8_beat 132 = .ok (.bipush 8, 2) := by decide +kernel
theorem dX8_beat_134 : decode cX8_beat 134 = .ok (.iload_n 1, 1) := by decide +kernel
theorem dX8_beat_135 : decode cX8_beat 135 = .ok (.iadd, 1) := by decide +kernel
theorem dX8_beat_136 : decode cX8_beat 136 = .ok (.dup2, 1) := by decide +kernel
theorem dX8_beat_137 : decode cX8_beat 137 = .ok (.iaload, 1) := by decide +kernel
theorem dX8_beat_138 : decode cX8_beat 138 = .ok (.aload_n 0, 1) := by decide +kernel
theorem dX8_beat_139 : decode cX8_beat 139 = .ok (.getfield 13, 3) := by decide +kernel
theorem dX8_beat_142 : decode cX8_beat 142 = .ok (.bipush 8, 2) := by decide +kernel
theorem dX8_beat_144 : decode cX8_beat 144 = .ok (.iload_n 1, 1) := by decide +kernel
theorem dX8_beat_145 : decode cX8_beat 145 = .ok (.iadd, 1) := by decide +kernel
theorem dX8_beat_146 : decode cX8_beat 146 = .ok (.iaload, 1) := by decide +kernel
theorem dX8_beat_147 : decode cX8_beat 147 = .ok (.aload_n 0, 1) := by decide +kernel
theorem dX8_beat_148 : decode cX8_beat 148 = .ok (.getfield 22, 3) := by decide +kernel
theorem dX8_beat_151 : decode cX8_beat 151 = .ok (.iload_n 1, 1) := by decide +kernel
theorem dX8_beat_152 : decode cX8_beat 152 = .ok (.iaload, 1) := by decide +kernel
theorem dX8_beat_153 : decode cX8_beat 153 = .ok (.if_icmp .ge 7, 3) := by decide +kernel
theorem dX8_beat_156 : decode cX8_beat 156 = .ok (.iconst 1, 1) := by decide +kernel
theorem dX8_beat_157 : decode cX8_beat 157 = .ok (.goto 4, 3) := by decide +kernel
theorem dX8_beat_160 : decode cX8_beat 160 = .ok (.iconst 0, 1) := by decide +kernel
theorem dX8_beat_161 : decode cX8_beat 161 = .ok (.iadd, 1) := by decide +kernel
theorem dX8_beat_162 : decode cX8_beat 162 = .ok (.iastore, 1) := by decide +kernel
theorem dX8_beat_163 : decode cX8_beat 163 = .ok (.goto 53, 3) := by decide +kernel
theorem dX8_beat_166 : decode cX8_beat 166 = .ok (.aload_n 0, 1) := by decide +kernel
theorem dX8_beat_167 : decode cX8_beat 167 = .ok (.iload_n 1, 1) := by decide +kernel
theorem dX8_beat_168 : decode cX8_beat 168 = .ok (.invokevirtual 82, 3) := by decide +kernel
theorem dX8_beat_171 : decode cX8_beat 171 = .ok (.ifCond .eq 45, 3) := by decide +kernel
theorem dX8_beat_174 : decode cX8_beat 174 = .ok (.aload_n 0, 1) := by decide +kernel
theorem dX8_beat_175 : decode cX8_beat 175 = .ok (.getfield 13, 3) := by decide +kernel
theorem dX8_beat_178 : decode cX8_beat 178 = .ok (.bipush 8, 2) := by decide +kernel
theorem dX8_beat_180 : decode cX8_beat 180 = .ok (.iload_n 1, 1) := by decide +kernel
theorem dX8_beat_181 : decode cX8_beat 181 = .ok (.iadd, 1) := by decide +kernel
theorem dX8_beat_182 : decode cX8_beat 182 = .ok (.dup2, 1) := by decide +kernel
theorem dX8_beat_183 : decode cX8_beat 183 = .ok (.iaload, 1) := by decide +kernel
theorem dX8_beat_184 : decode cX8_beat 184 = .ok (.iconst 1, 1) := by decide +kernel
theorem dX8_beat_185 : decode cX8_beat 185 = .ok (.isub, 1) := by decide +kernel
theorem dX8_beat_186 : decode cX8_beat 186 = .ok (.iastore, 1) := by decide +kernel
theorem dX8_beat_187 : decode cX8_beat 187 = .ok (.aload_n 0, 1) := by decide +kernel
theorem dX8_beat_188 : decode cX8_beat 188 = .ok (.getfield 13, 3) := by decide +kernel
theorem dX8_beat_191 : decode cX8_beat 191 = .ok (.iload_n 1, 1) := by decide +kernel
theorem dX8_beat_192 : decode cX8_beat 192 = .ok (.aload_n 0, 1) := by decide +kernel
theorem dX8_beat_193 : decode cX8_beat 193 = .ok (.getfield 13, 3) := by decide +kernel
theorem dX8_beat_196 : decode cX8_beat 196 = .ok (.bipush 8, 2) := by decide +kernel
theorem dX8_beat_198 : decode cX8_beat 198 = .ok (.iload_n 1, 1) := by decide +kernel
theorem dX8_beat_199 : decode cX8_beat 199 = .ok (.iadd, 1) := by decide +kernel
theorem dX8_beat_200 : decode cX8_beat 200 = .ok (.iaload, 1) := by decide +kernel
theorem dX8_beat_201 : decode cX8_beat 201 = .ok (.ifCond .ne 8, 3) := by decide +kernel
theorem dX8_beat_204 : decode cX8_beat 204 = .ok (.bipush (-6), 2) := by decide +kernel
theorem dX8_beat_206 : decode cX8_beat 206 = .ok (.goto 9, 3) := by decide +kernel
theorem dX8_beat_209 : decode cX8_beat 209 = .ok (.aload_n 0, 1) := by decide +kernel
theorem dX8_beat_210 : decode cX8_beat 210 = .ok (.getfield 13, 3) := by decide +kernel
theorem dX8_beat_213 : decode cX8_beat 213 = .ok (.iload_n 1, 1) := by decide +kernel
theorem dX8_beat_214 : decode cX8_beat 214 = .ok (.iaload, 1) := by decide +kernel
theorem dX8_beat_215 : decode cX8_beat 215 = .ok (.iastore, 1) := by decide +kernel
theorem dX8_beat_216 : decode cX8_beat 216 = .ok (.iinc 1 1, 3) := by decide +kernel
theorem dX8_beat_219 : decode cX8_beat 219 = .ok (.goto (-165), 3) := by decide +kernel
theorem dX8_beat_222 : decode cX8_beat 222 = .ok (.iconst 0, 1) := by decide +kernel
theorem dX8_beat_223 : decode cX8_beat 223 = .ok (.ireturn, 1) := by decide +kernel
set_option maxRecDepth 20000 in
theorem ggX8_goShifts_X8_asNow : GoodIn wsX8_goShifts wsX8_asNow := goodIn_r _ [12, 5, 13, 6, 7, 68, 69, 70, 71, 72, 73, 74, 75, 76, 77, 78, 79, 80, 81, 82, 83, 84, 85, 86, 87, 88, 89, 90, 91] (by decide +kernel) (by decide +kernel)
set_option maxRecDepth 20000 in
theorem gX8_goShifts_X8_asNow : GoodIn wsX8_goShifts (wsV RX8 110 RX8 yX8_asNow wsX8_asNow) := goodIn_app (goodIn_of _ (by decide +kernel)) ggX8_goShifts_X8_asNow
set_option maxRecDepth 20000 in
theorem ggX8_goShifts_X8_lamps : GoodIn wsX8_goShifts wsX8_lamps := goodIn_r _ [17, 18, 19, 20, 11, 21, 22, 23, 24, 25, 26, 27, 5, 28, 29, 30, 31, 32, 33, 34, 35, 36, 37, 38, 39, 40, 41, 42, 43, 44, 45, 46, 68, 69, 70, 71, 72, 73, 74, 75, 76, 77, 78, 79, 80, 81, 82, 83, 84, 85, 86, 87, 88, 89, 90, 91] (by decide +kernel) (by decide +kernel)
set_option maxRecDepth 20000 in
theorem gX8_goShifts_X8_lamps : GoodIn wsX8_goShifts (wsV RX8 116 RX8 yX8_lamps wsX8_lamps) := goodIn_app (goodIn_of _ (by decide +kernel)) ggX8_goShifts_X8_lamps
set_option maxRecDepth 20000 in
theorem ggX8_goShifts_X8_beat : GoodIn wsX8_goShifts wsX8_beat := goodIn_r _ [50, 5, 51, 52, 18, 19, 20, 11, 21, 22, 23, 24, 25, 26, 27, 28, 29, 30, 31, 32, 33, 34, 35, 36, 37, 38, 39, 40, 41, 42, 43, 44, 45, 46, 68, 69, 70, 71, 72, 73, 74, 75, 76, 77, 78, 79, 80, 81, 82, 83, 84, 85, 86, 87, 88, 89, 90, 91] (by decide +kernel) (by decide +kernel)
set_option maxRecDepth 20000 in
theorem gX8_goShifts_X8_beat : GoodIn wsX8_goShifts (wsV RX8 122 RX8 yX8_beat wsX8_beat) := goodIn_app (goodIn_of _ (by decide +kernel)) ggX8_goShifts_X8_beat
set_option maxRecDepth 20000 in
theorem ggX8_goShifts_X8_hush : GoodIn wsX8_goShifts wsX8_hush := goodIn_r _ [56, 5, 32, 33, 34, 11, 35, 36, 37, 38, 39, 40, 41, 42, 68, 69, 70, 71, 72, 73, 74, 75, 76, 77, 78, 79, 80, 81, 82, 83, 84, 85, 86, 87, 88, 89, 90, 91] (by decide +kernel) (by decide +kernel)
set_option maxRecDepth 20000 in
theorem gX8_goShifts_X8_hush : GoodIn wsX8_goShifts (wsV RX8 125 RX8 yX8_hush wsX8_hush) := goodIn_app (goodIn_of _ (by decide +kernel)) ggX8_goShifts_X8_hush
set_option maxRecDepth 20000 in
theorem ggX8_goShifts_X8_go : GoodIn wsX8_goShifts wsX8_go := goodIn_r _ [60, 5, 61, 32, 33, 34, 11, 35, 36, 37, 38, 39, 40, 41, 42, 68, 69, 70, 71, 72, 73, 74, 75, 76, 77, 78, 79, 80, 81, 82, 83, 84, 85, 86, 87, 88, 89, 90, 91] (by decide +kernel) (by decide +kernel)
set_option maxRecDepth 20000 in
theorem gX8_goShifts_X8_go : GoodIn wsX8_goShifts (wsV RX8 128 RX8 yX8_go wsX8_go) := goodIn_app (goodIn_of _ (by decide +kernel)) ggX8_goShifts_X8_go
set_option maxRecDepth 20000 in
theorem ggX8_goShifts_X8_sing : GoodIn wsX8_goShifts wsX8_sing := goodIn_r _ [65, 66, 67, 5, 32, 33, 34, 11, 35, 36, 37, 38, 39, 40, 41, 42, 68, 69, 70, 71, 72, 73, 74, 75, 76, 77, 78, 79, 80, 81, 82, 83, 84, 85, 86, 87, 88, 89, 90, 91] (by decide +kernel) (by decide +kernel)
set_option maxRecDepth 20000 in
theorem gX8_goShifts_X8_sing : GoodIn wsX8_goShifts (wsV RX8 132 RX8 yX8_sing wsX8_sing) := goodIn_app (goodIn_of _ (by decide +kernel)) ggX8_goShifts_X8_sing
set_option maxRecDepth 20000 in
theorem ggX8_goShifts_X8_has : GoodIn wsX8_goShifts wsX8_has := goodIn_r _ [42] (by decide +kernel) (by decide +kernel)
set_option maxRecDepth 20000 in
theorem gX8_goShifts_X8_has : GoodIn wsX8_goShifts (va_wsS RX8 67 yX8_has wsX8_has) := goodIn_app (goodIn_of _ (by decide +kernel)) ggX8_goShifts_X8_has
theorem dX8_goShifts_0 : decode cX8_goShifts 0 = .ok (.aload_n 0, 1) := by decide +kernel
theorem dX8_goShifts_1 : decode cX8_goShifts 1 = .ok (.invokevirtual 110, 3) := by decide +kernel
theorem dX8_goShifts_4 : decode cX8_goShifts 4 = .ok (.aload_n 0, 1) := by decide +kernel
theorem dX8_goShifts_5 : decode cX8_goShifts 5 = .ok (.iconst 0, 1) := by decide +kernel
theorem dX8_goShifts_6 : decode cX8_goShifts 6 = .ok (.putfield 113, 3) := by decide +kernel
theorem dX8_goShifts_9 : decode cX8_goShifts 9 = .ok (.iconst 0, 1) := by decide +kernel
theorem dX8_goShifts_10 : decode cX8_goShifts 10 = .ok (.istore_n 1, 1) := by decide +kernel
theorem dX8_goShifts_11 : decode cX8_goShifts 11 = .ok (.aload_n 0, 1) := by decide +kernel
theorem dX8_goShifts_12 : decode cX8_goShifts 12 = .ok (.invokevirtual 116, 3) := by decide +kernel
theorem dX8_goShifts_15 : decode cX8_goShifts 15 = .ok (.istore_n 2, 1) := by decide +kernel
theorem dX8_goShifts_16 : decode cX8_goShifts 16 = .ok (.iload_n 1, 1) := by decide +kernel
theorem dX8_goShifts_17 : decode cX8_goShifts 17 = .ok (.aload_n 0, 1) := by decide +kernel
theorem dX8_goShifts_18 : decode cX8_goShifts 18 = .ok (.getfield 85, 3) := by decide +kernel
theorem dX8_goShifts_21 : decode cX8_goShifts 21 = .ok (.if_icmp .ge 244, 3) := by decide +kernel
theorem dX8_goShifts_24 : decode cX8_goShifts 24 = .ok (.aload_n 0, 1) := by decide +kernel
theorem dX8_goShifts_25 : decode cX8_goShifts 25 = .ok (.getfield 34, 3) := by decide +kernel
theorem dX8_goShifts_28 : decode cX8_goShifts 28 = .ok (.iload_n 1, 1) := by decide +kernel
theorem dX8_goShifts_29 : decode cX8_goShifts 29 = .ok (.iaload, 1) := by decide +kernel
theorem dX8_goShifts_30 : decode cX8_goShifts 30 = .ok (.istore_n 3, 1) := by decide +kernel
theorem dX8_goShifts_31 : decode cX8_goShifts 31 = .ok (.aload_n 0, 1) := by decide +kernel
theorem dX8_goShifts_32 : decode cX8_goShifts 32 = .ok (.iconst 0, 1) := by decide +kernel
theorem dX8_goShifts_33 : decode cX8_goShifts 33 = .ok (.putfield 119, 3) := by decide +kernel
theorem dX8_goShifts_36 : decode cX8_goShifts 36 = .ok (.iload_n 3, 1) := by decide +kernel
theorem dX8_goShifts_37 : decode cX8_goShifts 37 = .ok (.bipush 46, 2) := by decide +kernel
theorem dX8_goShifts_39 : decode cX8_goShifts 39 = .ok (.if_icmp .ne 17, 3) := by decide +kernel
theorem dX8_goShifts_42 : decode cX8_goShifts 42 = .ok (.aload_n 0, 1) := by decide +kernel
theorem dX8_goShifts_43 : decode cX8_goShifts 43 = .ok (.aload_n 0, 1) := by decide +kernel
theorem dX8_goShifts_44 : decode cX8_goShifts 44 = .ok (.invokevirtual 122, 3) := by decide +kernel
theorem dX8_goShifts_47 : decode cX8_goShifts 47 = .ok (.putfield 119, 3) := by decide +kernel
theorem dX8_goShifts_50 : decode cX8_goShifts 50 = .ok (.iinc 1 1, 3) := by decide +kernel
theorem dX8_goShifts_53 : decode cX8_goShifts 53 = .ok (.goto 127, 3) := by decide +kernel
theorem dX8_goShifts_56 : decode cX8_goShifts 56 = .ok (.iload_n 3, 1) := by decide +kernel
theorem dX8_goShifts_57 : decode cX8_goShifts 57 = .ok (.bipush 42, 2) := by decide +kernel
theorem dX8_goShifts_59 : decode cX8_goShifts 59 = .ok (.if_icmp .ne 32, 3) := by decide +kernel
theorem dX8_goShifts_62 : decode cX8_goShifts 62 = .ok (.aload_n 0, 1) := by decide +kernel
theorem dX8_goShifts_63 : decode cX8_goShifts 63 = .ok (.getfield 13, 3) := by decide +kernel
theorem dX8_goShifts_66 : decode cX8_goShifts 66 = .ok (.bipush 34, 2) := by decide +kernel
theorem dX8_goShifts_68 : decode cX8_goShifts 68 = .ok (.dup2, 1) := by decide +kernel
theorem dX8_goShifts_69 : decode cX8_goShifts 69 = .ok (.iaload, 1) := by decide +kernel
theorem dX8_goShifts_70 : decode cX8_goShifts 70 = .ok (.iconst 1, 1) := by decide +kernel
theorem dX8_goShifts_71 : decode cX8_goShifts 71 = .ok (.aload_n 0, 1) := by decide +kernel
theorem dX8_goShifts_72 : decode cX8_goShifts 72 = .ok (.getfield 34, 3) := by decide +kernel
theorem dX8_goShifts_75 : decode cX8_goShifts 75 = .ok (.iload_n 1, 1) := by decide +kernel
theorem dX8_goShifts_76 : decode cX8_goShifts 76 = .ok (.iconst 1, 1) := by decide +kernel
theorem dX8_goShifts_77 : decode cX8_goShifts 77 = .ok (.iadd, 1) := by decide +kernel
theorem dX8_goShifts_78 : decode cX8_goShifts 78 = .ok (.iaload, 1) := by decide +kernel
theorem dX8_goShifts_79 : decode cX8_goShifts 79 = .ok (.bipush 48, 2) := by decide +kernel
theorem dX8_goShifts_81 : decode cX8_goShifts 81 = .ok (.isub, 1) := by decide +kernel
theorem dX8_goShifts_82 : decode cX8_goShifts 82 = .ok (.ishl, 1) := by decide +kernel
theorem dX8_goShifts_83 : decode cX8_goShifts 83 = .ok (.ixor, 1) := by decide +kernel
theorem dX8_goShifts_84 : decode cX8_goShifts 84 = .ok (.iastore, 1) := by decide +kernel
theorem dX8_goShifts_85 : decode cX8_goShifts 85 = .ok (.iinc 1 2, 3) := by decide +kernel
theorem dX8_goShifts_88 : decode cX8_goShifts 88 = .ok (.goto 92, 3) := by decide +kernel
theorem dX8_goShifts_91 : decode cX8_goShifts 91 = .ok (.aload_n 0, 1) := by decide +kernel
theorem dX8_goShifts_92 : decode cX8_goShifts 92 = .ok (.getfield 34, 3) := by decide +kernel
theorem dX8_goShifts_95 : decode cX8_goShifts 95 = .ok (.iload_n 1, 1) := by decide +kernel
theorem dX8_goShifts_96 : decode cX8_goShifts 96 = .ok (.iconst 1, 1) := by decide +kernel
theorem dX8_goShifts_97 : decode cX8_goShifts 97 = .ok (.iadd, 1) := by decide +kernel
theorem dX8_goShifts_98 : decode cX8_goShifts 98 = .ok (.iaload, 1) := by decide +kernel
theorem dX8_goShifts_99 : decode cX8_goShifts 99 = .ok (.istore 4, 2) := by decide +kernel
theorem dX8_goShifts_101 : decode cX8_goShifts 101 = .ok (.aload_n 0, 1) := by decide +kernel
theorem dX8_goShifts_102 : decode cX8_goShifts 102 = .ok (.iload 4, 2) := by decide +kernel
theorem dX8_goShifts_104 : decode cX8_goShifts 104 = .ok (.bipush 45, 2) := by decide +kernel
theorem dX8_goShifts_106 : decode cX8_goShifts 106 = .ok (.if_icmp .ne 14, 3) := by decide +kernel
theorem dX8_goShifts_109 : decode cX8_goShifts 109 = .ok (.aload_n 0, 1) := by decide +kernel
theorem dX8_goShifts_110 : decode cX8_goShifts 110 = .ok (.iload_n 3, 1) := by decide +kernel
theorem dX8_goShifts_111 : decode cX8_goShifts 111 = .ok (.bipush 65, 2) := by decide +kernel
theorem dX8_goShifts_113 : decode cX8_goShifts 113 = .ok (.isub, 1) := by decide +kernel
theorem dX8_goShifts_114 : decode cX8_goShifts 114 = .ok (.invokevirtual 125, 3) := by decide +kernel
theorem dX8_goShifts_117 : decode cX8_goShifts 117 = .ok (.goto 45, 3) := by decide +kernel
theorem dX8_goShifts_120 : decode cX8_goShifts 120 = .ok (.iload 4, 2) := by decide +kernel
theorem dX8_goShifts_122 : decode cX8_goShifts 122 = .ok (.bipush 62, 2) := by decide +kernel
theorem dX8_goShifts_124 : decode cX8_goShifts 124 = .ok (.if_icmp .ne 25, 3) := by decide +kernel
theorem dX8_goShifts_127 : decode cX8_goShifts 127 = .ok (.aload_n 0, 1) := by decide +kernel
theorem dX8_goShifts_128 : decode cX8_goShifts 128 = .ok (.iload_n 3, 1) := by decide +kernel
theorem dX8_goShifts_129 : decode cX8_goShifts 129 = .ok (.bipush 65, 2) := by decide +kernel
theorem dX8_goShifts_131 : decode cX8_goShifts 131 = .ok (.isub, 1) := by decide +kernel
theorem dX8_goShifts_132 : decode cX8_goShifts 132 = .ok (.aload_n 0, 1) := by decide +kernel
theorem dX8_goShifts_133 : decode cX8_goShifts 133 = .ok (.getfield 34, 3) := by decide +kernel
theorem dX8_goShifts_136 : decode cX8_goShifts 136 = .ok (.iload_n 1, 1) := by decide +kernel
theorem dX8_goShifts_137 : decode cX8_goShifts 137 = .ok (.iconst 2, 1) := by decide +kernel
theorem dX8_goShifts_138 : decode cX8_goShifts 138 = .ok (.iadd, 1) := by decide +kernel
theorem dX8_goShifts_139 : decode cX8_goShifts 139 = .ok (.iaload, 1) := by decide +kernel
theorem dX8_goShifts_140 : decode cX8_goShifts 140 = .ok (.bipush 48, 2) := by decide +kernel
theorem dX8_goShifts_142 : decode cX8_goShifts 142 = .ok (.isub, 1) := by decide +kernel
theorem dX8_goShifts_143 : decode cX8_goShifts 143 = .ok (.invokevirtual 128, 3) := by decide +kernel
theorem dX8_goShifts_146 : decode cX8_goShifts 146 = .ok (.goto 16, 3) := by decide +kernel
theorem dX8_goShifts_149 : decode cX8_goShifts 149 = .ok (.aload_n 0, 1) := by decide +kernel
theorem dX8_goShifts_150 : decode cX8_goShifts 150 = .ok (.iload_n 3, 1) := by decide +kernel
theorem dX8_goShifts_151 : decode cX8_goShifts 151 = .ok (.bipush 65, 2) := by decide +kernel
theorem dX8_goShifts_153 : decode cX8_goShifts 153 = .ok (.isub, 1) := by decide +kernel
theorem dX8_goShifts_154 : decode cX8_goShifts 154 = .ok (.iload 4, 2) := by decide +kernel
theorem dX8_goShifts_156 : decode cX8_goShifts 156 = .ok (.bipush 97, 2) := by decide +kernel
theorem dX8_goShifts_158 : decode cX8_goShifts 158 = .ok (.isub, 1) := by decide +kernel
theorem dX8_goShifts_159 : decode cX8_goShifts 159 = .ok (.invokevirtual 132, 3) := by decide +kernel
theorem dX8_goShifts_162 : decode cX8_goShifts 162 = .ok (.putfield 119, 3) := by decide +kernel
theorem dX8_goShifts_165 : decode cX8_goShifts 165 = .ok (.iload_n 1, 1) := by decide +kernel
theorem dX8_goShifts_166 : decode cX8_goShifts 166 = .ok (.iload 4, 2) := by decide +kernel
theorem dX8_goShifts_168 : decode cX8_goShifts 168 = .ok (.bipush 62, 2) := by decide +kernel
theorem dX8_goShifts_170 : decode cX8_goShifts 170 = .ok (.if_icmp .ne 7, 3) := by decide +kernel
theorem dX8_goShifts_173 : decode cX8_goShifts 173 = .ok (.iconst 3, 1) := by decide +kernel
theorem dX8_goShifts_174 : decode cX8_goShifts 174 = .ok (.goto 4, 3) := by decide +kernel
theorem dX8_goShifts_177 : decode cX8_goShifts 177 = .ok (.iconst 2, 1) := by decide +kernel
theorem dX8_goShifts_178 : decode cX8_goShifts 178 = .ok (.iadd, 1) := by decide +kernel
theorem dX8_goShifts_179 : decode cX8_goShifts 179 = .ok (.istore_n 1, 1) := by decide +kernel
theorem dX8_goShifts_180 : decode cX8_goShifts 180 = .ok (.aload_n 0, 1) := by decide +kernel
theorem dX8_goShifts_181 : decode cX8_goShifts 181 = .ok (.getfield 119, 3) := by decide +kernel
theorem dX8_goShifts_184 : decode cX8_goShifts 184 = .ok (.ifCond .le 8, 3) := by decide +kernel
theorem dX8_goShifts_187 : decode cX8_goShifts 187 = .ok (.aload_n 0, 1) := by decide +kernel
theorem dX8_goShifts_188 : decode cX8_goShifts 188 = .ok (.getfield 113, 3) := by decide +kernel
theorem dX8_goShifts_191 : decode cX8_goShifts 191 = .ok (.ireturn, 1) := by decide +kernel
theorem dX8_goShifts_192 : decode cX8_goShifts 192 = .ok (.aload_n 0, 1) := by decide +kernel
theorem dX8_goShifts_193 : decode cX8_goShifts 193 = .ok (.invokevirtual 116, 3) := by decide +kernel
theorem dX8_goShifts_196 : decode cX8_goShifts 196 = .ok (.istore 4, 2) := by decide +kernel
theorem dX8_goShifts_198 : decode cX8_goShifts 198 = .ok (.iconst 0, 1) := by decide +kernel
theorem dX8_goShifts_199 : decode cX8_goShifts 199 = .ok (.istore 5, 2) := by decide +kernel
theorem dX8_goShifts_201 : decode cX8_goShifts 201 = .ok (.iload 5, 2) := by decide +kernel
theorem dX8_goShifts_203 : decode cX8_goShifts 203 = .ok (.bipush 10, 2) := by decide +kernel
theorem dX8_goShifts_205 : decode cX8_goShifts 205 = .ok (.if_icmp .ge 44, 3) := by decide +kernel
theorem dX8_goShifts_208 : decode cX8_goShifts 208 = .ok (.aload_n 0, 1) := by decide +kernel
theorem dX8_goShifts_209 : decode cX8_goShifts 209 = .ok (.getfield 104, 3) := by decide +kernel
theorem dX8_goShifts_212 : decode cX8_goShifts 212 = .ok (.ifCond .ge 37, 3) := by decide +kernel
theorem dX8_goShifts_215 : decode cX8_goShifts 215 = .ok (.iload_n 2, 1) := by decide +kernel
theorem dX8_goShifts_216 : decode cX8_goShifts 216 = .ok (.iload 4, 2) := by decide +kernel
theorem dX8_goShifts_218 : decode cX8_goShifts 218 = .ok (.iconst (-1), 1) := by decide +kernel
theorem dX8_goShifts_219 : decode cX8_goShifts 219 = .ok (.ixor, 1) := by decide +kernel
theorem dX8_goShifts_220 : decode cX8_goShifts 220 = .ok (.iand, 1) := by decide +kernel
theorem dX8_goShifts_221 : decode cX8_goShifts 221 = .ok (.iload 5, 2) := by decide +kernel
theorem dX8_goShifts_223 : decode cX8_goShifts 223 = .ok (.invokestatic 67, 3) := by decide +kernel
theorem dX8_goShifts_226 : decode cX8_goShifts 226 = .ok (.ifCond .eq 17, 3) := by decide +kernel
theorem dX8_goShifts_229 : decode cX8_goShifts 229 = .ok (.aload_n 0, 1) := by decide +kernel
theorem dX8_goShifts_230 : decode cX8_goShifts 230 = .ok (.aload_n 0, 1) := by decide +kernel
theorem dX8_goShifts_231 : decode cX8_goShifts 231 = .ok (.getfield 113, 3) := by decide +kernel
theorem dX8_goShifts_234 : decode cX8_goShifts 234 = .ok (.putfield 104, 3) := by decide +kernel
theorem dX8_goShifts_237 : decode cX8_goShifts 237 = .ok (.aload_n 0, 1) := by decide +kernel
theorem dX8_goShifts_238 : decode cX8_goShifts 238 = .ok (.iload 5, 2) := by decide +kernel
theorem dX8_goShifts_240 : decode cX8_goShifts 240 = .ok (.putfield 107, 3) := by decide +kernel
theorem dX8_goShifts_243 : decode cX8_goShifts 243 = .ok (.iinc 5 1, 3) := by decide +kernel
theorem dX8_goShifts_246 : decode cX8_goShifts 246 = .ok (.goto (-45), 3) := by decide +kernel
theorem dX8_goShifts_249 : decode cX8_goShifts 249 = .ok (.iload 4, 2) := by decide +kernel
theorem dX8_goShifts_251 : decode cX8_goShifts 251 = .ok (.istore_n 2, 1) := by decide +kernel
theorem dX8_goShifts_252 : decode cX8_goShifts 252 = .ok (.aload_n 0, 1) := by decide +kernel
theorem dX8_goShifts_253 : decode cX8_goShifts 253 = .ok (.dup, 1) := by decide +kernel
theorem dX8_goShifts_254 : decode cX8_goShifts 254 = .ok (.getfield 113, 3) := by decide +kernel
theorem dX8_goShifts_257 : decode cX8_goShifts 257 = .ok (.iconst 1, 1) := by decide +kernel
theorem dX8_goShifts_258 : decode cX8_goShifts 258 = .ok (.iadd, 1) := by decide +kernel
theorem dX8_goShifts_259 : decode cX8_goShifts 259 = .ok (.putfield 113, 3) := by decide +kernel
theorem dX8_goShifts_262 : decode cX8_goShifts 262 = .ok (.goto (-246), 3) := by decide +kernel
theorem dX8_goShifts_265 : decode cX8_goShifts 265 = .ok (.bipush (-6), 2) := by decide +kernel
theorem dX8_goShifts_267 : decode cX8_goShifts 267 = .ok (.ireturn, 1) := by decide +kernel
set_option maxRecDepth 20000 in
theorem ggX8_judge_X8_in : GoodIn wsX8_judge wsX8_in := goodIn_r _ [5] (by decide +kernel) (by decide +kernel)
set_option maxRecDepth 20000 in
theorem gX8_judge_X8_in : GoodIn wsX8_judge (va_wsS RX8 59 yX8_in wsX8_in) := goodIn_app (goodIn_of _ (by decide +kernel)) ggX8_judge_X8_in
set_option maxRecDepth 20000 in
theorem ggX8_judge_X8_faultOf : GoodIn wsX8_judge wsX8_faultOf := goodIn_r _ [9, 10, 11, 2, 3, 4, 5, 76, 77, 78, 79, 80, 81, 82, 83, 84, 85, 86, 87, 88, 89, 90, 91, 92, 93, 94, 95, 96, 97, 98, 99] (by decide +kernel) (by decide +kernel)
set_option maxRecDepth 20000 in
theorem gX8_judge_X8_faultOf : GoodIn wsX8_judge (wsV RX8 88 RX8 yX8_faultOf wsX8_faultOf) := goodIn_app (goodIn_of _ (by decide +kernel)) ggX8_judge_X8_faultOf
set_option maxRecDepth 20000 in
theorem ggX8_judge_X8_goShifts : GoodIn wsX8_judge wsX8_goShifts := goodIn_r _ [15, 16, 10, 11, 1, 17, 18, 19, 20, 21, 22, 4, 23, 24, 25, 26, 27, 28, 29, 30, 31, 32, 33, 34, 35, 36, 37, 38, 39, 40, 41, 42, 43, 44, 45, 46, 47, 2, 3, 5, 48, 49, 50, 51, 52, 53, 54, 55, 56, 57, 58, 59, 60, 61, 62, 63, 64, 65, 66, 67, 68, 69, 70, 71, 72, 73, 74, 75, 76, 77, 78, 79, 80, 81, 82, 83, 84, 85, 86, 87, 88, 89, 90, 91, 92, 93, 94, 95, 96, 97, 98, 99] (by decide +kernel) (by decide +kernel)
set_option maxRecDepth 20000 in
theorem gX8_judge_X8_goShifts : GoodIn wsX8_judge (wsV RX8 135 RX8 yX8_goShifts wsX8_goShifts) := goodIn_app (goodIn_of _ (by decide +kernel)) ggX8_judge_X8_goShifts
theorem dX8_judge_0 : decode cX8_judge 0 = .ok (.iload_n 1, 1) := by decide +kernel
theorem dX8_judge_1 : decode cX8_judge 1 = .ok (.iconst 0, 1) := by decide +kernel
theorem dX8_judge_2 : decode cX8_judge 2 = .ok (.iconst 1, 1) := by decide +kernel
theorem dX8_judge_3 : decode cX8_judge 3 = .ok (.invokestatic 59, 3) := by decide +kernel
theorem dX8_judge_6 : decode cX8_judge 6 = .ok (.ifCond .ne 6, 3) := by decide +kernel
theorem dX8_judge_9 : decode cX8_judge 9 = .ok (.bipush (-2), 2) := by decide +kernel
theorem dX8_judge_11 : decode cX8_judge 11 = .ok (.ireturn, 1) := by decide +kernel
theorem dX8_judge_12 : decode cX8_judge 12 = .ok (.aload_n 0, 1) := by decide +kernel
theorem dX8_judge_13 : decode cX8_judge 13 = .ok (.invokevirtual 88, 3) := by decide +kernel
theorem dX8_judge_16 : decode cX8_judge 16 = .ok (.ifCond .lt 6, 3) := by decide +kernel
theorem dX8_judge_19 : decode cX8_judge 19 = .ok (.bipush (-5), 2) := by decide +kernel
theorem dX8_judge_21 : decode cX8_judge 21 = .ok (.ireturn, 1) := by decide +kernel
theorem dX8_judge_22 : decode cX8_judge 22 = .ok (.aload_n 0, 1) := by decide +kernel
theorem dX8_judge_23 : decode cX8_judge 23 = .ok (.invokevirtual 135, 3) := by decide +kernel
theorem dX8_judge_26 : decode cX8_judge 26 = .ok (.istore_n 2, 1) := by decide +kernel
theorem dX8_judge_27 : decode cX8_judge 27 = .ok (.iload_n 2, 1) := by decide +kernel
theorem dX8_judge_28 : decode cX8_judge 28 = .ok (.ifCond .lt 7, 3) := by decide +kernel
theorem dX8_judge_31 : decode cX8_judge 31 = .ok (.iload_n 1, 1) := by decide +kernel
theorem dX8_judge_32 : decode cX8_judge 32 = .ok (.ifCond .ne 7, 3) := by decide +kernel
theorem dX8_judge_35 : decode cX8_judge 35 = .ok (.iload_n 2, 1) := by decide +kernel
theorem dX8_judge_36 : decode cX8_judge 36 = .ok (.goto 7, 3) := by decide +kernel
theorem dX8_judge_39 : decode cX8_judge 39 = .ok (.aload_n 0, 1) := by decide +kernel
theorem dX8_judge_40 : decode cX8_judge 40 = .ok (.getfield 119, 3) := by decide +kernel
theorem dX8_judge_43 : decode cX8_judge 43 = .ok (.ireturn, 1) := by decide +kernel
set_option maxRecDepth 20000 in
theorem ggX8_barOfShifts_X8_faultOf : GoodIn wsX8_barOfShifts wsX8_faultOf := goodIn_r _ [5, 6, 7, 8, 9, 4, 10, 76, 77, 78, 79, 80, 81, 82, 83, 84, 85, 86, 87, 88, 89, 90, 91, 92, 93, 94, 95, 96, 97, 98, 99] (by decide +kernel) (by decide +kernel)
set_option maxRecDepth 20000 in
theorem gX8_barOfShifts_X8_faultOf : GoodIn wsX8_barOfShifts (wsV RX8 88 RX8 yX8_faultOf wsX8_faultOf) := goodIn_app (goodIn_of _ (by decide +kernel)) ggX8_barOfShifts_X8_faultOf
set_option maxRecDepth 20000 in
theorem ggX8_barOfShifts_X8_goShifts : GoodIn wsX8_barOfShifts wsX8_goShifts := goodIn_r _ [14, 15, 6, 7, 16, 17, 18, 19, 20, 21, 22, 4, 23, 24, 25, 26, 27, 28, 29, 30, 31, 32, 33, 34, 35, 36, 37, 38, 39, 40, 41, 42, 43, 44, 45, 46, 47, 8, 9, 10, 48, 49, 50, 51, 52, 53, 54, 55, 56, 57, 58, 59, 60, 61, 62, 63, 64, 65, 66, 67, 68, 69, 70, 71, 72, 73, 74, 75, 76, 77, 78, 79, 80, 81, 82, 83, 84, 85, 86, 87, 88, 89, 90, 91, 92, 93, 94, 95, 96, 97, 98, 99] (by decide +kernel) (by decide +kernel)
set_option maxRecDepth 20000 in
theorem gX8_barOfShifts_X8_goShifts : GoodIn wsX8_barOfShifts (wsV RX8 135 RX8 yX8_goShifts wsX8_goShifts) := goodIn_app (goodIn_of _ (by decide +kernel)) ggX8_barOfShifts_X8_goShifts
theorem dX8_barOfShifts_0 : decode cX8_barOfShifts 0 = .ok (.aload_n 0, 1) := by decide +kernel
theorem dX8_barOfShifts_1 : decode cX8_barOfShifts 1 = .ok (.invokevirtual 88, 3) := by decide +kernel
theorem dX8_barOfShifts_4 : decode cX8_barOfShifts 4 = .ok (.ifCond .ge 10, 3) := by decide +kernel
theorem dX8_barOfShifts_7 : decode cX8_barOfShifts 7 = .ok (.aload_n 0, 1) := by decide +kernel
theorem dX8_barOfShifts_8 : decode cX8_barOfShifts 8 = .ok (.invokevirtual 135, 3) := by decide +kernel
theorem dX8_barOfShifts_11 : decode cX8_barOfShifts 11 = .ok (.ifCond .lt 8, 3) := by decide +kernel
theorem dX8_barOfShifts_14 : decode cX8_barOfShifts 14 = .ok (.bipush (-5), 2) := by decide +kernel
theorem dX8_barOfShifts_16 : decode cX8_barOfShifts 16 = .ok (.goto 4, 3) := by decide +kernel
theorem dX8_barOfShifts_19 : decode cX8_barOfShifts 19 = .ok (.iconst 0, 1) := by decide +kernel
theorem dX8_barOfShifts_20 : decode cX8_barOfShifts 20 = .ok (.ireturn, 1) := by decide +kernel
set_option maxRecDepth 20000 in
theorem ggX8_done_X8_barOfShifts : GoodIn wsX8_done wsX8_barOfShifts := goodIn_r _ [9, 10, 11, 12, 8, 13, 3, 14, 15, 16, 17, 18, 19, 20, 21, 4, 22, 2, 23, 24, 25, 26, 27, 28, 1, 29, 30, 31, 32, 33, 34, 35, 36, 37, 38, 39, 40, 41, 42, 43, 44, 45, 46, 47, 48, 49, 50, 51, 52, 53, 54, 55, 56, 57, 58, 59, 60, 61, 62, 63, 64, 65, 66, 67, 68, 69, 70, 71, 72, 73, 74, 75, 76, 77, 78, 79, 80, 81, 82, 83, 84, 85, 86, 87, 88, 89, 90, 91, 92, 93, 94, 95, 96, 97, 98, 99, 100, 101, 102, 103] (by decide +kernel) (by decide +kernel)
set_option maxRecDepth 20000 in
theorem gX8_done_X8_barOfShifts : GoodIn wsX8_done (wsV RX8 138 RX8 yX8_barOfShifts wsX8_barOfShifts) := goodIn_app (goodIn_of _ (by decide +kernel)) ggX8_done_X8_barOfShifts
theorem dX8_done_0 : decode cX8_done 0 = .ok (.aload_n 0, 1) := by decide +kernel
theorem dX8_done_1 : decode cX8_done 1 = .ok (.invokevirtual 138, 3) := by decide +kernel
theorem dX8_done_4 : decode cX8_done 4 = .ok (.ifCond .ge 6, 3) := by decide +kernel
theorem dX8_done_7 : decode cX8_done 7 = .ok (.bipush (-5), 2) := by decide +kernel
theorem dX8_done_9 : decode cX8_done 9 = .ok (.ireturn, 1) := by decide +kernel
theorem dX8_done_10 : decode cX8_done 10 = .ok (.iconst 0, 1) := by decide +kernel
theorem dX8_done_11 : decode cX8_done 11 = .ok (.istore_n 1, 1) := by decide +kernel
theorem dX8_done_12 : decode cX8_done 12 = .ok (.iload_n 1, 1) := by decide +kernel
theorem dX8_done_13 : decode cX8_done 13 = .ok (.bipush 36, 2) := by decide +kernel
theorem dX8_done_15 : decode cX8_done 15 = .ok (.if_icmp .ge 21, 3) := by decide +kernel
theorem dX8_done_18 : decode cX8_done 18 = .ok (.aload_n 0, 1) := by decide +kernel
theorem dX8_done_19 : decode cX8_done 19 = .ok (.getfield 7, 3) := by decide +kernel
theorem dX8_done_22 : decode cX8_done 22 = .ok (.iload_n 1, 1) := by decide +kernel
theorem dX8_done_23 : decode cX8_done 23 = .ok (.aload_n 0, 1) := by decide +kernel
theorem dX8_done_24 : decode cX8_done 24 = .ok (.getfield 13, 3) := by decide +kernel
theorem dX8_done_27 : decode cX8_done 27 = .ok (.iload_n 1, 1) := by decide +kernel
theorem dX8_done_28 : decode cX8_done 28 = .ok (.iaload, 1) := by decide +kernel
theorem dX8_done_29 : decode cX8_done 29 = .ok (.iastore, 1) := by decide +kernel
theorem dX8_done_30 : decode cX8_done 30 = .ok (.iinc 1 1, 3) := by decide +kernel
theorem dX8_done_33 : decode cX8_done 33 = .ok (.goto (-21), 3) := by decide +kernel
theorem dX8_done_36 : decode cX8_done 36 = .ok (.aload_n 0, 1) := by decide +kernel
theorem dX8_done_37 : decode cX8_done 37 = .ok (.iconst 0, 1) := by decide +kernel
theorem dX8_done_38 : decode cX8_done 38 = .ok (.putfield 85, 3) := by decide +kernel
theorem dX8_done_41 : decode cX8_done 41 = .ok (.aload_n 0, 1) := by decide +kernel
theorem dX8_done_42 : decode cX8_done 42 = .ok (.getfield 113, 3) := by decide +kernel
theorem dX8_done_45 : decode cX8_done 45 = .ok (.ireturn, 1) := by decide +kernel
set_option maxRecDepth 20000 in
theorem ggX8_behind_X8_isThere : GoodIn wsX8_behind wsX8_isThere := goodIn_r _ [6, 7, 8, 9, 5, 10, 11, 12, 13, 80, 81, 82, 83, 84, 85, 86, 87, 88, 89, 90, 91, 92, 93, 94, 95, 96, 97, 98, 99, 100, 101, 102, 103] (by decide +kernel) (by decide +kernel)
set_option maxRecDepth 20000 in
theorem gX8_behind_X8_isThere : GoodIn wsX8_behind (wsV RX8 82 RX8 yX8_isThere wsX8_isThere) := goodIn_app (goodIn_of _ (by decide +kernel)) ggX8_behind_X8_isThere
set_option maxRecDepth 20000 in
theorem ggX8_behind_X8_in : GoodIn wsX8_behind wsX8_in := goodIn_r _ [10] (by decide +kernel) (by decide +kernel)
set_option maxRecDepth 20000 in
theorem gX8_behind_X8_in : GoodIn wsX8_behind (va_wsS RX8 59 yX8_in wsX8_in) := goodIn_app (goodIn_of _ (by decide +kernel)) ggX8_behind_X8_in
set_option maxRecDepth 20000 in
theorem ggX8_behind_X8_barOfShifts : GoodIn wsX8_behind wsX8_barOfShifts := goodIn_r _ [17, 18, 19, 20, 5, 21, 22, 23, 8, 9, 10, 24, 25, 26, 27, 28, 29, 1, 30, 31, 32, 33, 34, 35, 36, 37, 38, 39, 40, 41, 42, 43, 44, 45, 46, 47, 48, 49, 50, 51, 52, 53, 54, 2, 3, 4, 6, 7, 11, 12, 13, 55, 56, 57, 58, 59, 60, 61, 62, 63, 64, 65, 66, 67, 68, 69, 70, 71, 72, 73, 74, 75, 76, 77, 78, 79, 80, 81, 82, 83, 84, 85, 86, 87, 88, 89, 90, 91, 92, 93, 94, 95, 96, 97, 98, 99, 100, 101, 102, 103] (by decide +kernel) (by decide +kernel)
set_option maxRecDepth 20000 in
theorem gX8_behind_X8_barOfShifts : GoodIn wsX8_behind (wsV RX8 138 RX8 yX8_barOfShifts wsX8_barOfShifts) := goodIn_app (goodIn_of _ (by decide +kernel)) ggX8_behind_X8_barOfShifts
theorem dX8_behind_0 : decode cX8_behind 0 = .ok (.aload_n 0, 1) := by decide +kernel
theorem dX8_behind_1 : decode cX8_behind 1 = .ok (.iload_n 1, 1) := by decide +kernel
theorem dX8_behind_2 : decode cX8_behind 2 = .ok (.invokevirtual 82, 3) := by decide +kernel
theorem dX8_behind_5 : decode cX8_behind 5 = .ok (.ifCond .ne 5, 3) := by decide +kernel
theorem dX8_behind_8 : decode cX8_behind 8 = .ok (.iconst (-1), 1) := by decide +kernel
theorem dX8_behind_9 : decode cX8_behind 9 = .ok (.ireturn, 1) := by decide +kernel
theorem dX8_behind_10 : decode cX8_behind 10 = .ok (.iload_n 2, 1) := by decide +kernel
theorem dX8_behind_11 : decode cX8_behind 11 = .ok (.iconst 0, 1) := by decide +kernel
theorem dX8_behind_12 : decode cX8_behind 12 = .ok (.iconst 2, 1) := by decide +kernel
theorem dX8_behind_13 : decode cX8_behind 13 = .ok (.invokestatic 59, 3) := by decide +kernel
theorem dX8_behind_16 : decode cX8_behind 16 = .ok (.ifCond .ne 6, 3) := by decide +kernel
theorem dX8_behind_19 : decode cX8_behind 19 = .ok (.bipush (-2), 2) := by decide +kernel
theorem dX8_behind_21 : decode cX8_behind 21 = .ok (.ireturn, 1) := by decide +kernel
theorem dX8_behind_22 : decode cX8_behind 22 = .ok (.aload_n 0, 1) := by decide +kernel
theorem dX8_behind_23 : decode cX8_behind 23 = .ok (.invokevirtual 138, 3) := by decide +kernel
theorem dX8_behind_26 : decode cX8_behind 26 = .ok (.ifCond .ge 8, 3) := by decide +kernel
theorem dX8_behind_29 : decode cX8_behind 29 = .ok (.bipush (-5), 2) := by decide +kernel
theorem dX8_behind_31 : decode cX8_behind 31 = .ok (.goto 14, 3) := by decide +kernel
theorem dX8_behind_34 : decode cX8_behind 34 = .ok (.aload_n 0, 1) := by decide +kernel
theorem dX8_behind_35 : decode cX8_behind 35 = .ok (.getfield 13, 3) := by decide +kernel
theorem dX8_behind_38 : decode cX8_behind 38 = .ok (.bipush 8, 2) := by decide +kernel
