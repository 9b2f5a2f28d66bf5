theorem dX5_monthOf_0 : decode cX5_monthOf 0 = .ok (.aload_n 0, 1) := by decide +kernel
theorem dX5_monthOf_1 : decode cX5_monthOf 1 = .ok (.aload_n 0, 1) := by decide +kernel
theorem dX5_monthOf_2 : decode cX5_monthOf 2 = .ok (.iload_n 1, 1) := by decide +kernel
theorem dX5_monthOf_3 : decode cX5_monthOf 3 = .ok (.invokevirtual 125, 3) := by decide +kernel
theorem dX5_monthOf_6 : decode cX5_monthOf 6 = .ok (.ifCond .eq 7, 3) := by decide +kernel
theorem dX5_monthOf_9 : decode cX5_monthOf 9 = .ok (.iconst 0, 1) := by decide +kernel
theorem dX5_monthOf_10 : decode cX5_monthOf 10 = .ok (.goto 4, 3) := by decide +kernel
theorem dX5_monthOf_13 : decode cX5_monthOf 13 = .ok (.iconst 1, 1) := by decide +kernel
theorem dX5_monthOf_14 : decode cX5_monthOf 14 = .ok (.putfield 74, 3) := by decide +kernel
theorem dX5_monthOf_17 : decode cX5_monthOf 17 = .ok (.aload_n 0, 1) := by decide +kernel
theorem dX5_monthOf_18 : decode cX5_monthOf 18 = .ok (.getfield 74, 3) := by decide +kernel
theorem dX5_monthOf_21 : decode cX5_monthOf 21 = .ok (.ifCond .le 7, 3) := by decide +kernel
theorem dX5_monthOf_24 : decode cX5_monthOf 24 = .ok (.iconst 0, 1) := by decide +kernel
theorem dX5_monthOf_25 : decode cX5_monthOf 25 = .ok (.goto 22, 3) := by decide +kernel
theorem dX5_monthOf_28 : decode cX5_monthOf 28 = .ok (.aload_n 0, 1) := by decide +kernel
theorem dX5_monthOf_29 : decode cX5_monthOf 29 = .ok (.getfield 43, 3) := by decide +kernel
theorem dX5_monthOf_32 : decode cX5_monthOf 32 = .ok (.iload_n 1, 1) := by decide +kernel
theorem dX5_monthOf_33 : decode cX5_monthOf 33 = .ok (.iaload, 1) := by decide +kernel
theorem dX5_monthOf_34 : decode cX5_monthOf 34 = .ok (.ifCond .ne 7, 3) := by decide +kernel
theorem dX5_monthOf_37 : decode cX5_monthOf 37 = .ok (.iconst (-1), 1) := by decide +kernel
theorem dX5_monthOf_38 : decode cX5_monthOf 38 = .ok (.goto 9, 3) := by decide +kernel
theorem dX5_monthOf_41 : decode cX5_monthOf 41 = .ok (.aload_n 0, 1) := by decide +kernel
theorem dX5_monthOf_42 : decode cX5_monthOf 42 = .ok (.getfield 46, 3) := by decide +kernel
theorem dX5_monthOf_45 : decode cX5_monthOf 45 = .ok (.iload_n 1, 1) := by decide +kernel
theorem dX5_monthOf_46 : decode cX5_monthOf 46 = .ok (.iaload, 1) := by decide +kernel
theorem dX5_monthOf_47 : decode cX5_monthOf 47 = .ok (.ireturn, 1) := by decide +kernel
theorem dX5_secondsAhead_0 : decode cX5_secondsAhead 0 = .ok (.iconst 0, 1) := by decide +kernel
theorem dX5_secondsAhead_1 : decode cX5_secondsAhead 1 = .ok (.istore 4, 2) := by decide +kernel
theorem dX5_secondsAhead_3 : decode cX5_secondsAhead 3 = .ok (.iconst 0, 1) := by decide +kernel
theorem dX5_secondsAhead_4 : decode cX5_secondsAhead 4 = .ok (.istore 5, 2) := by decide +kernel
theorem dX5_secondsAhead_6 : decode cX5_secondsAhead 6 = .ok (.iload 5, 2) := by decide +kernel
theorem dX5_secondsAhead_8 : decode cX5_secondsAhead 8 = .ok (.iload_n 3, 1) := by decide +kernel
theorem dX5_secondsAhead_9 : decode cX5_secondsAhead 9 = .ok (.if_icmp .ge 64, 3) := by decide +kernel
theorem dX5_secondsAhead_12 : decode cX5_secondsAhead 12 = .ok (.aload_n 0, 1) := by decide +kernel
theorem dX5_secondsAhead_13 : decode cX5_secondsAhead 13 = .ok (.getfield 52, 3) := by decide +kernel
theorem dX5_secondsAhead_16 : decode cX5_secondsAhead 16 = .ok (.iload 5, 2) := by decide +kernel
theorem dX5_secondsAhead_18 : decode cX5_secondsAhead 18 = .ok (.iaload, 1) := by decide +kernel
theorem dX5_secondsAhead_19 : decode cX5_secondsAhead 19 = .ok (.istore 6, 2) := by decide +kernel
theorem dX5_secondsAhead_21 : decode cX5_secondsAhead 21 = .ok (.iload 4, 2) := by decide +kernel
theorem dX5_secondsAhead_23 : decode cX5_secondsAhead 23 = .ok (.aload_n 0, 1) := by decide +kernel
theorem dX5_secondsAhead_24 : decode cX5_secondsAhead 24 = .ok (.getfield 22, 3) := by decide +kernel
theorem dX5_secondsAhead_27 : decode cX5_secondsAhead 27 = .ok (.aload_n 0, 1) := by decide +kernel
theorem dX5_secondsAhead_28 : decode cX5_secondsAhead 28 = .ok (.getfield 34, 3) := by decide +kernel
theorem dX5_secondsAhead_31 : decode cX5_secondsAhead 31 = .ok (.iload 6, 2) := by decide +kernel
theorem dX5_secondsAhead_33 : decode cX5_secondsAhead 33 = .ok (.iaload, 1) := by decide +kernel
theorem dX5_secondsAhead_34 : decode cX5_secondsAhead 34 = .ok (.iaload, 1) := by decide +kernel
theorem dX5_secondsAhead_35 : decode cX5_secondsAhead 35 = .ok (.iload_n 1, 1) := by decide +kernel
theorem dX5_secondsAhead_36 : decode cX5_secondsAhead 36 = .ok (.if_icmp .ne 27, 3) := by decide +kernel
theorem dX5_secondsAhead_39 : decode cX5_secondsAhead 39 = .ok (.aload_n 0, 1) := by decide +kernel
theorem dX5_secondsAhead_40 : decode cX5_secondsAhead 40 = .ok (.getfield 46, 3) := by decide +kernel
theorem dX5_secondsAhead_43 : decode cX5_secondsAhead 43 = .ok (.iload 6, 2) := by decide +kernel
theorem dX5_secondsAhead_45 : decode cX5_secondsAhead 45 = .ok (.iaload, 1) := by decide +kernel
theorem dX5_secondsAhead_46 : decode cX5_secondsAhead 46 = .ok (.bipush 12, 2) := by decide +kernel
theorem dX5_secondsAhead_48 : decode cX5_secondsAhead 48 = .ok (.idiv, 1) := by decide +kernel
theorem dX5_secondsAhead_49 : decode cX5_secondsAhead 49 = .ok (.iload_n 2, 1) := by decide +kernel
theorem dX5_secondsAhead_50 : decode cX5_secondsAhead 50 = .ok (.if_icmp .ne 13, 3) := by decide +kernel
theorem dX5_secondsAhead_53 : decode cX5_secondsAhead 53 = .ok (.aload_n 0, 1) := by decide +kernel
theorem dX5_secondsAhead_54 : decode cX5_secondsAhead 54 = .ok (.getfield 37, 3) := by decide +kernel
theorem dX5_secondsAhead_57 : decode cX5_secondsAhead 57 = .ok (.iload 6, 2) := by decide +kernel
theorem dX5_secondsAhead_59 : decode cX5_secondsAhead 59 = .ok (.iaload, 1) := by decide +kernel
theorem dX5_secondsAhead_60 : decode cX5_secondsAhead 60 = .ok (.goto 4, 3) := by decide +kernel
theorem dX5_secondsAhead_63 : decode cX5_secondsAhead 63 = .ok (.iconst 0, 1) := by decide +kernel
theorem dX5_secondsAhead_64 : decode cX5_secondsAhead 64 = .ok (.iadd, 1) := by decide +kernel
theorem dX5_secondsAhead_65 : decode cX5_secondsAhead 65 = .ok (.istore 4, 2) := by decide +kernel
theorem dX5_secondsAhead_67 : decode cX5_secondsAhead 67 = .ok (.iinc 5 1, 3) := by decide +kernel
theorem dX5_secondsAhead_70 : decode cX5_secondsAhead 70 = .ok (.goto (-64), 3) := by decide +kernel
theorem dX5_secondsAhead_73 : decode cX5_secondsAhead 73 = .ok (.iload 4, 2) := by decide +kernel
theorem dX5_secondsAhead_75 : decode cX5_secondsAhead 75 = .ok (.ireturn, 1) := by decide +kernel
theorem dX5_placeOf_0 : decode cX5_placeOf 0 = .ok (.iconst 0, 1) := by decide +kernel
theorem dX5_placeOf_1 : decode cX5_placeOf 1 = .ok (.istore_n 2, 1) := by decide +kernel
theorem dX5_placeOf_2 : decode cX5_placeOf 2 = .ok (.aload_n 0, 1) := by decide +kernel
theorem dX5_placeOf_3 : decode cX5_placeOf 3 = .ok (.getfield 52, 3) := by decide +kernel
theorem dX5_placeOf_6 : decode cX5_placeOf 6 = .ok (.iload_n 2, 1) := by decide +kernel
theorem dX5_placeOf_7 : decode cX5_placeOf 7 = .ok (.iaload, 1) := by decide +kernel
theorem dX5_placeOf_8 : decode cX5_placeOf 8 = .ok (.iload_n 1, 1) := by decide +kernel
theorem dX5_placeOf_9 : decode cX5_placeOf 9 = .ok (.if_icmp .eq 9, 3) := by decide +kernel
theorem dX5_placeOf_12 : decode cX5_placeOf 12 = .ok (.iinc 2 1, 3) := by decide +kernel
theorem dX5_placeOf_15 : decode cX5_placeOf 15 = .ok (.goto (-13), 3) := by decide +kernel
theorem dX5_placeOf_18 : decode cX5_placeOf 18 = .ok (.iload_n 2, 1) := by decide +kernel
theorem dX5_placeOf_19 : decode cX5_placeOf 19 = .ok (.ireturn, 1) := by decide +kernel
set_option maxRecDepth 20000 in
theorem ggX5_owedOf_X5_placeOf : GoodIn wsX5_owedOf wsX5_placeOf := goodIn_r _ [16, 17, 23, 24, 25, 26, 27, 28, 29, 30, 31, 32, 33, 34, 35, 36, 37, 38, 39, 40, 41, 42, 43, 44, 45, 46, 47, 48] (by decide +kernel) (by decide +kernel)
set_option maxRecDepth 20000 in
theorem gX5_owedOf_X5_placeOf : GoodIn wsX5_owedOf (wsV RX5 128 RX5 yX5_placeOf wsX5_placeOf) := goodIn_app (goodIn_of _ (by decide +kernel)) ggX5_owedOf_X5_placeOf
set_option maxRecDepth 20000 in
theorem ggX5_owedOf_X5_secondsAhead : GoodIn wsX5_owedOf wsX5_secondsAhead := goodIn_r _ [21, 17, 2, 3, 4, 22, 23, 24, 25, 26, 27, 28, 29, 30, 31, 32, 33, 34, 35, 36, 37, 38, 39, 40, 41, 42, 43, 44, 45, 46, 47, 48] (by decide +kernel) (by decide +kernel)
set_option maxRecDepth 20000 in
theorem gX5_owedOf_X5_secondsAhead : GoodIn wsX5_owedOf (wsV RX5 132 RX5 yX5_secondsAhead wsX5_secondsAhead) := goodIn_app (goodIn_of _ (by decide +kernel)) ggX5_owedOf_X5_secondsAhead
theorem dX5_owedOf_0 : decode cX5_owedOf 0 = .ok (.aload_n 0, 1) := by decide +kernel
theorem dX5_owedOf_1 : decode cX5_owedOf 1 = .ok (.getfield 43, 3) := by decide +kernel
theorem dX5_owedOf_4 : decode cX5_owedOf 4 = .ok (.iload_n 1, 1) := by decide +kernel
theorem dX5_owedOf_5 : decode cX5_owedOf 5 = .ok (.iaload, 1) := by decide +kernel
theorem dX5_owedOf_6 : decode cX5_owedOf 6 = .ok (.ifCond .eq 13, 3) := by decide +kernel
theorem dX5_owedOf_9 : decode cX5_owedOf 9 = .ok (.aload_n 0, 1) := by decide +kernel
theorem dX5_owedOf_10 : decode cX5_owedOf 10 = .ok (.getfield 43, 3) := by decide +kernel
theorem dX5_owedOf_13 : decode cX5_owedOf 13 = .ok (.iload_n 1, 1) := by decide +kernel
theorem dX5_owedOf_14 : decode cX5_owedOf 14 = .ok (.iaload, 1) := by decide +kernel
theorem dX5_owedOf_15 : decode cX5_owedOf 15 = .ok (.iconst 4, 1) := by decide +kernel
theorem dX5_owedOf_16 : decode cX5_owedOf 16 = .ok (.if_icmp .ne 5, 3) := by decide +kernel
theorem dX5_owedOf_19 : decode cX5_owedOf 19 = .ok (.iconst 0, 1) := by decide +kernel
theorem dX5_owedOf_20 : decode cX5_owedOf 20 = .ok (.ireturn, 1) := by decide +kernel
theorem dX5_owedOf_21 : decode cX5_owedOf 21 = .ok (.aload_n 0, 1) := by decide +kernel
theorem dX5_owedOf_22 : decode cX5_owedOf 22 = .ok (.getfield 22, 3) := by decide +kernel
theorem dX5_owedOf_25 : decode cX5_owedOf 25 = .ok (.aload_n 0, 1) := by decide +kernel
theorem dX5_owedOf_26 : decode cX5_owedOf 26 = .ok (.getfield 34, 3) := by decide +kernel
theorem dX5_owedOf_29 : decode cX5_owedOf 29 = .ok (.iload_n 1, 1) := by decide +kernel
theorem dX5_owedOf_30 : decode cX5_owedOf 30 = .ok (.iaload, 1) := by decide +kernel
theorem dX5_owedOf_31 : decode cX5_owedOf 31 = .ok (.iaload, 1) := by decide +kernel
theorem dX5_owedOf_32 : decode cX5_owedOf 32 = .ok (.istore_n 2, 1) := by decide +kernel
theorem dX5_owedOf_33 : decode cX5_owedOf 33 = .ok (.aload_n 0, 1) := by decide +kernel
theorem dX5_owedOf_34 : decode cX5_owedOf 34 = .ok (.iload_n 2, 1) := by decide +kernel
theorem dX5_owedOf_35 : decode cX5_owedOf 35 = .ok (.aload_n 0, 1) := by decide +kernel
theorem dX5_owedOf_36 : decode cX5_owedOf 36 = .ok (.getfield 46, 3) := by decide +kernel
theorem dX5_owedOf_39 : decode cX5_owedOf 39 = .ok (.iload_n 1, 1) := by decide +kernel
theorem dX5_owedOf_40 : decode cX5_owedOf 40 = .ok (.iaload, 1) := by decide +kernel
theorem dX5_owedOf_41 : decode cX5_owedOf 41 = .ok (.bipush 12, 2) := by decide +kernel
theorem dX5_owedOf_43 : decode cX5_owedOf 43 = .ok (.idiv, 1) := by decide +kernel
theorem dX5_owedOf_44 : decode cX5_owedOf 44 = .ok (.aload_n 0, 1) := by decide +kernel
theorem dX5_owedOf_45 : decode cX5_owedOf 45 = .ok (.getfield 68, 3) := by decide +kernel
theorem dX5_owedOf_48 : decode cX5_owedOf 48 = .ok (.iload_n 2, 1) := by decide +kernel
theorem dX5_owedOf_49 : decode cX5_owedOf 49 = .ok (.baload, 1) := by decide +kernel
theorem dX5_owedOf_50 : decode cX5_owedOf 50 = .ok (.ifCond .eq 10, 3) := by decide +kernel
theorem dX5_owedOf_53 : decode cX5_owedOf 53 = .ok (.aload_n 0, 1) := by decide +kernel
theorem dX5_owedOf_54 : decode cX5_owedOf 54 = .ok (.getfield 115, 3) := by decide +kernel
theorem dX5_owedOf_57 : decode cX5_owedOf 57 = .ok (.goto 8, 3) := by decide +kernel
theorem dX5_owedOf_60 : decode cX5_owedOf 60 = .ok (.aload_n 0, 1) := by decide +kernel
theorem dX5_owedOf_61 : decode cX5_owedOf 61 = .ok (.iload_n 1, 1) := by decide +kernel
theorem dX5_owedOf_62 : decode cX5_owedOf 62 = .ok (.invokevirtual 128, 3) := by decide +kernel
theorem dX5_owedOf_65 : decode cX5_owedOf 65 = .ok (.invokevirtual 132, 3) := by decide +kernel
theorem dX5_owedOf_68 : decode cX5_owedOf 68 = .ok (.istore_n 3, 1) := by decide +kernel
theorem dX5_owedOf_69 : decode cX5_owedOf 69 = .ok (.aload_n 0, 1) := by decide +kernel
theorem dX5_owedOf_70 : decode cX5_owedOf 70 = .ok (.getfield 58, 3) := by decide +kernel
theorem dX5_owedOf_73 : decode cX5_owedOf 73 = .ok (.iload_n 2, 1) := by decide +kernel
theorem dX5_owedOf_74 : decode cX5_owedOf 74 = .ok (.baload, 1) := by decide +kernel
theorem dX5_owedOf_75 : decode cX5_owedOf 75 = .ok (.ifCond .eq 17, 3) := by decide +kernel
theorem dX5_owedOf_78 : decode cX5_owedOf 78 = .ok (.iload_n 3, 1) := by decide +kernel
theorem dX5_owedOf_79 : decode cX5_owedOf 79 = .ok (.aload_n 0, 1) := by decide +kernel
theorem dX5_owedOf_80 : decode cX5_owedOf 80 = .ok (.getfield 62, 3) := by decide +kernel
theorem dX5_owedOf_83 : decode cX5_owedOf 83 = .ok (.iload_n 2, 1) := by decide +kernel
theorem dX5_owedOf_84 : decode cX5_owedOf 84 = .ok (.iaload, 1) := by decide +kernel
theorem dX5_owedOf_85 : decode cX5_owedOf 85 = .ok (.if_icmp .lt 7, 3) := by decide +kernel
theorem dX5_owedOf_88 : decode cX5_owedOf 88 = .ok (.iconst 1, 1) := by decide +kernel
theorem dX5_owedOf_89 : decode cX5_owedOf 89 = .ok (.goto 4, 3) := by decide +kernel
theorem dX5_owedOf_92 : decode cX5_owedOf 92 = .ok (.iconst 0, 1) := by decide +kernel
theorem dX5_owedOf_93 : decode cX5_owedOf 93 = .ok (.istore 4, 2) := by decide +kernel
theorem dX5_owedOf_95 : decode cX5_owedOf 95 = .ok (.aload_n 0, 1) := by decide +kernel
theorem dX5_owedOf_96 : decode cX5_owedOf 96 = .ok (.getfield 40, 3) := by decide +kernel
theorem dX5_owedOf_99 : decode cX5_owedOf 99 = .ok (.iload_n 1, 1) := by decide +kernel
theorem dX5_owedOf_100 : decode cX5_owedOf 100 = .ok (.iaload, 1) := by decide +kernel
theorem dX5_owedOf_101 : decode cX5_owedOf 101 = .ok (.iload 4, 2) := by decide +kernel
theorem dX5_owedOf_103 : decode cX5_owedOf 103 = .ok (.ifCond .eq 26, 3) := by decide +kernel
theorem dX5_owedOf_106 : decode cX5_owedOf 106 = .ok (.aload_n 0, 1) := by decide +kernel
theorem dX5_owedOf_107 : decode cX5_owedOf 107 = .ok (.getfield 40, 3) := by decide +kernel
theorem dX5_owedOf_110 : decode cX5_owedOf 110 = .ok (.iload_n 1, 1) := by decide +kernel
theorem dX5_owedOf_111 : decode cX5_owedOf 111 = .ok (.iaload, 1) := by decide +kernel
theorem dX5_owedOf_112 : decode cX5_owedOf 112 = .ok (.i2l, 1) := by decide +kernel
theorem dX5_owedOf_113 : decode cX5_owedOf 113 = .ok (.aload_n 0, 1) := by decide +kernel
theorem dX5_owedOf_114 : decode cX5_owedOf 114 = .ok (.getfield 65, 3) := by decide +kernel
theorem dX5_owedOf_117 : decode cX5_owedOf 117 = .ok (.iload_n 2, 1) := by decide +kernel
theorem dX5_owedOf_118 : decode cX5_owedOf 118 = .ok (.iaload, 1) := by decide +kernel
theorem dX5_owedOf_119 : decode cX5_owedOf 119 = .ok (.i2l, 1) := by decide +kernel
theorem dX5_owedOf_120 : decode cX5_owedOf 120 = .ok (.lmul, 1) := by decide +kernel
theorem dX5_owedOf_121 : decode cX5_owedOf 121 = .ok (.ldc2_w 136, 3) := by decide +kernel
theorem dX5_owedOf_124 : decode cX5_owedOf 124 = .ok (.ldiv, 1) := by decide +kernel
theorem dX5_owedOf_125 : decode cX5_owedOf 125 = .ok (.l2i, 1) := by decide +kernel
theorem dX5_owedOf_126 : decode cX5_owedOf 126 = .ok (.goto 4, 3) := by decide +kernel
theorem dX5_owedOf_129 : decode cX5_owedOf 129 = .ok (.iconst 0, 1) := by decide +kernel
theorem dX5_owedOf_130 : decode cX5_owedOf 130 = .ok (.isub, 1) := by decide +kernel
theorem dX5_owedOf_131 : decode cX5_owedOf 131 = .ok (.ireturn, 1) := by decide +kernel
set_option maxRecDepth 20000 in
theorem ggX5_owedFor_X5_isCall : GoodIn wsX5_owedFor wsX5_isCall := goodIn_r _ [6, 7, 8, 9, 5, 10, 36, 37, 38, 39, 40, 41, 42, 43, 44, 45, 46, 47, 48, 49, 50, 51, 52, 53, 54, 55, 56, 57, 58, 59, 60, 61] (by decide +kernel) (by decide +kernel)
set_option maxRecDepth 20000 in
theorem gX5_owedFor_X5_isCall : GoodIn wsX5_owedFor (wsV RX5 125 RX5 yX5_isCall wsX5_isCall) := goodIn_app (goodIn_of _ (by decide +kernel)) ggX5_owedFor_X5_isCall
set_option maxRecDepth 20000 in
theorem ggX5_owedFor_X5_owedOf : GoodIn wsX5_owedFor wsX5_owedOf := goodIn_r _ [14, 15, 16, 17, 18, 19, 20, 21, 22, 23, 24, 25, 26, 27, 28, 5, 29, 30, 31, 32, 33, 34, 35, 36, 37, 38, 39, 40, 41, 42, 43, 44, 45, 46, 47, 48, 49, 50, 51, 52, 53, 54, 55, 56, 57, 58, 59, 60, 61] (by decide +kernel) (by decide +kernel)
set_option maxRecDepth 20000 in
theorem gX5_owedFor_X5_owedOf : GoodIn wsX5_owedFor (wsV RX5 138 RX5 yX5_owedOf wsX5_owedOf) := goodIn_app (goodIn_of _ (by decide +kernel)) ggX5_owedFor_X5_owedOf
theorem dX5_owedFor_0 : decode cX5_owedFor 0 = .ok (.aload_n 0, 1) := by decide +kernel
theorem dX5_owedFor_1 : decode cX5_owedFor 1 = .ok (.aload_n 0, 1) := by decide +kernel
theorem dX5_owedFor_2 : decode cX5_owedFor 2 = .ok (.iload_n 1, 1) := by decide +kernel
theorem dX5_owedFor_3 : decode cX5_owedFor 3 = .ok (.invokevirtual 125, 3) := by decide +kernel
theorem dX5_owedFor_6 : decode cX5_owedFor 6 = .ok (.ifCond .eq 7, 3) := by decide +kernel
theorem dX5_owedFor_9 : decode cX5_owedFor 9 = .ok (.iconst 0, 1) := by decide +kernel
theorem dX5_owedFor_10 : decode cX5_owedFor 10 = .ok (.goto 4, 3) := by decide +kernel
theorem dX5_owedFor_13 : decode cX5_owedFor 13 = .ok (.iconst 1, 1) := by decide +kernel
theorem dX5_owedFor_14 : decode cX5_owedFor 14 = .ok (.putfield 74, 3) := by decide +kernel
theorem dX5_owedFor_17 : decode cX5_owedFor 17 = .ok (.aload_n 0, 1) := by decide +kernel
theorem dX5_owedFor_18 : decode cX5_owedFor 18 = .ok (.getfield 74, 3) := by decide +kernel
theorem dX5_owedFor_21 : decode cX5_owedFor 21 = .ok (.ifCond .ne 11, 3) := by decide +kernel
theorem dX5_owedFor_24 : decode cX5_owedFor 24 = .ok (.aload_n 0, 1) := by decide +kernel
theorem dX5_owedFor_25 : decode cX5_owedFor 25 = .ok (.iload_n 1, 1) := by decide +kernel
theorem dX5_owedFor_26 : decode cX5_owedFor 26 = .ok (.invokevirtual 138, 3) := by decide +kernel
theorem dX5_owedFor_29 : decode cX5_owedFor 29 = .ok (.goto 4, 3) := by decide +kernel
theorem dX5_owedFor_32 : decode cX5_owedFor 32 = .ok (.iconst 0, 1) := by decide +kernel
theorem dX5_owedFor_33 : decode cX5_owedFor 33 = .ok (.ireturn, 1) := by decide +kernel
set_option maxRecDepth 20000 in
theorem ggX5_dispute_X5_isCall : GoodIn wsX5_dispute wsX5_isCall := goodIn_r _ [10, 11, 12, 13, 9, 14, 15, 16, 17, 18, 19, 20, 21, 22, 23, 24, 25, 26, 27, 28, 29, 30, 31, 32, 33, 34, 35, 36, 37, 38, 39, 40] (by decide +kernel) (by decide +kernel)
set_option maxRecDepth 20000 in
theorem gX5_dispute_X5_isCall : GoodIn wsX5_dispute (wsV RX5 125 RX5 yX5_isCall wsX5_isCall) := goodIn_app (goodIn_of _ (by decide +kernel)) ggX5_dispute_X5_isCall
theorem dX5_dispute_0 : decode cX5_dispute 0 = .ok (.aload_n 0, 1) := by decide +kernel
theorem dX5_dispute_1 : decode cX5_dispute 1 = .ok (.aload_n 0, 1) := by decide +kernel
theorem dX5_dispute_2 : decode cX5_dispute 2 = .ok (.iload_n 1, 1) := by decide +kernel
theorem dX5_dispute_3 : decode cX5_dispute 3 = .ok (.invokevirtual 125, 3) := by decide +kernel
theorem dX5_dispute_6 : decode cX5_dispute 6 = .ok (.ifCond .ne 7, 3) := by decide +kernel
theorem dX5_dispute_9 : decode cX5_dispute 9 = .ok (.iconst 1, 1) := by decide +kernel
theorem dX5_dispute_10 : decode cX5_dispute 10 = .ok (.goto 33, 3) := by decide +kernel
theorem dX5_dispute_13 : decode cX5_dispute 13 = .ok (.aload_n 0, 1) := by decide +kernel
theorem dX5_dispute_14 : decode cX5_dispute 14 = .ok (.getfield 43, 3) := by decide +kernel
theorem dX5_dispute_17 : decode cX5_dispute 17 = .ok (.iload_n 1, 1) := by decide +kernel
theorem dX5_dispute_18 : decode cX5_dispute 18 = .ok (.iaload, 1) := by decide +kernel
theorem dX5_dispute_19 : decode cX5_dispute 19 = .ok (.iconst 1, 1) := by decide +kernel
theorem dX5_dispute_20 : decode cX5_dispute 20 = .ok (.if_icmp .ne 18, 3) := by decide +kernel
theorem dX5_dispute_23 : decode cX5_dispute 23 = .ok (.aload_n 0, 1) := by decide +kernel
theorem dX5_dispute_24 : decode cX5_dispute 24 = .ok (.getfield 101, 3) := by decide +kernel
theorem dX5_dispute_27 : decode cX5_dispute 27 = .ok (.aload_n 0, 1) := by decide +kernel
theorem dX5_dispute_28 : decode cX5_dispute 28 = .ok (.getfield 46, 3) := by decide +kernel
theorem dX5_dispute_31 : decode cX5_dispute 31 = .ok (.iload_n 1, 1) := by decide +kernel
theorem dX5_dispute_32 : decode cX5_dispute 32 = .ok (.iaload, 1) := by decide +kernel
theorem dX5_dispute_33 : decode cX5_dispute 33 = .ok (.isub, 1) := by decide +kernel
theorem dX5_dispute_34 : decode cX5_dispute 34 = .ok (.iconst 1, 1) := by decide +kernel
theorem dX5_dispute_35 : decode cX5_dispute 35 = .ok (.if_icmp .le 7, 3) := by decide +kernel
theorem dX5_dispute_38 : decode cX5_dispute 38 = .ok (.iconst 2, 1) := by decide +kernel
theorem dX5_dispute_39 : decode cX5_dispute 39 = .ok (.goto 4, 3) := by decide +kernel
theorem dX5_dispute_42 : decode cX5_dispute 42 = .ok (.iconst 0, 1) := by decide +kernel
theorem dX5_dispute_43 : decode cX5_dispute 43 = .ok (.putfield 74, 3) := by decide +kernel
theorem dX5_dispute_46 : decode cX5_dispute 46 = .ok (.aload_n 0, 1) := by decide +kernel
theorem dX5_dispute_47 : decode cX5_dispute 47 = .ok (.getfield 74, 3) := by decide +kernel
theorem dX5_dispute_50 : decode cX5_dispute 50 = .ok (.ifCond .ne 20, 3) := by decide +kernel
theorem dX5_dispute_53 : decode cX5_dispute 53 = .ok (.aload_n 0, 1) := by decide +kernel
theorem dX5_dispute_54 : decode cX5_dispute 54 = .ok (.getfield 43, 3) := by decide +kernel
theorem dX5_dispute_57 : decode cX5_dispute 57 = .ok (.iload_n 1, 1) := by decide +kernel
theorem dX5_dispute_58 : decode cX5_dispute 58 = .ok (.iconst 2, 1) := by decide +kernel
theorem dX5_dispute_59 : decode cX5_dispute 59 = .ok (.iastore, 1) := by decide +kernel
theorem dX5_dispute_60 : decode cX5_dispute 60 = .ok (.aload_n 0, 1) := by decide +kernel
theorem dX5_dispute_61 : decode cX5_dispute 61 = .ok (.getfield 49, 3) := by decide +kernel
theorem dX5_dispute_64 : decode cX5_dispute 64 = .ok (.iload_n 1, 1) := by decide +kernel
theorem dX5_dispute_65 : decode cX5_dispute 65 = .ok (.aload_n 0, 1) := by decide +kernel
theorem dX5_dispute_66 : decode cX5_dispute 66 = .ok (.getfield 101, 3) := by decide +kernel
theorem dX5_dispute_69 : decode cX5_dispute 69 = .ok (.iastore, 1) := by decide +kernel
theorem dX5_dispute_70 : decode cX5_dispute 70 = .ok (.return_, 1) := by decide +kernel
set_option maxRecDepth 20000 in
theorem ggX5_answer_X5_isCall : GoodIn wsX5_answer wsX5_isCall := goodIn_r _ [7, 8, 9, 10, 6, 11, 12, 13, 14, 15, 16, 17, 18, 19, 20, 21, 22, 23, 24, 25, 26, 27, 28, 29, 30, 31, 32, 33, 34, 35, 36, 37] (by decide +kernel) (by decide +kernel)
set_option maxRecDepth 20000 in
theorem gX5_answer_X5_isCall : GoodIn wsX5_answer (wsV RX5 125 RX5 yX5_isCall wsX5_isCall) := goodIn_app (goodIn_of _ (by decide +kernel)) ggX5_answer_X5_isCall
theorem dX5_answer_0 : decode cX5_answer 0 = .ok (.aload_n 0, 1) := by decide +kernel
theorem dX5_answer_1 : decode cX5_answer 1 = .ok (.aload_n 0, 1) := by decide +kernel
theorem dX5_answer_2 : decode cX5_answer 2 = .ok (.iload_n 1, 1) := by decide +kernel
theorem dX5_answer_3 : decode cX5_answer 3 = .ok (.invokevirtual 125, 3) := by decide +kernel
theorem dX5_answer_6 : decode cX5_answer 6 = .ok (.ifCond .ne 7, 3) := by decide +kernel
theorem dX5_answer_9 : decode cX5_answer 9 = .ok (.iconst 1, 1) := by decide +kernel
theorem dX5_answer_10 : decode cX5_answer 10 = .ok (.goto 18, 3) := by decide +kernel
theorem dX5_answer_13 : decode cX5_answer 13 = .ok (.aload_n 0, 1) := by decide +kernel
theorem dX5_answer_14 : decode cX5_answer 14 = .ok (.getfield 43, 3) := by decide +kernel
theorem dX5_answer_17 : decode cX5_answer 17 = .ok (.iload_n 1, 1) := by decide +kernel
theorem dX5_answer_18 : decode cX5_answer 18 = .ok (.iaload, 1) := by decide +kernel
theorem dX5_answer_19 : decode cX5_answer 19 = .ok (.iconst 2, 1) := by decide +kernel
theorem dX5_answer_20 : decode cX5_answer 20 = .ok (.if_icmp .eq 7, 3) := by decide +kernel
theorem dX5_answer_23 : decode cX5_answer 23 = .ok (.iconst 2, 1) := by decide +kernel
theorem dX5_answer_24 : decode cX5_answer 24 = .ok (.goto 4, 3) := by decide +kernel
theorem dX5_answer_27 : decode cX5_answer 27 = .ok (.iconst 0, 1) := by decide +kernel
theorem dX5_answer_28 : decode cX5_answer 28 = .ok (.putfield 74, 3) := by decide +kernel
theorem dX5_answer_31 : decode cX5_answer 31 = .ok (.aload_n 0, 1) := by decide +kernel
theorem dX5_answer_32 : decode cX5_answer 32 = .ok (.getfield 74, 3) := by decide +kernel
theorem dX5_answer_35 : decode cX5_answer 35 = .ok (.ifCond .ne 18, 3) := by decide +kernel
theorem dX5_answer_38 : decode cX5_answer 38 = .ok (.aload_n 0, 1) := by decide +kernel
theorem dX5_answer_39 : decode cX5_answer 39 = .ok (.getfield 43, 3) := by decide +kernel
theorem dX5_answer_42 : decode cX5_answer 42 = .ok (.iload_n 1, 1) := by decide +kernel
theorem dX5_answer_43 : decode cX5_answer 43 = .ok (.iload_n 2, 1) := by decide +kernel
theorem dX5_answer_44 : decode cX5_answer 44 = .ok (.ifCond .eq 7, 3) := by decide +kernel
theorem dX5_answer_47 : decode cX5_answer 47 = .ok (.iconst 3, 1) := by decide +kernel
theorem dX5_answer_48 : decode cX5_answer 48 = .ok (.goto 4, 3) := by decide +kernel
theorem dX5_answer_51 : decode cX5_answer 51 = .ok (.iconst 4, 1) := by decide +kernel
theorem dX5_answer_52 : decode cX5_answer 52 = .ok (.iastore, 1) := by decide +kernel
theorem dX5_answer_53 : decode cX5_answer 53 = .ok (.return_, 1) := by decide +kernel
set_option maxRecDepth 20000 in
theorem ggX5_agree_X5_in : GoodIn wsX5_agree wsX5_in := goodIn_r _ [9] (by decide +kernel) (by decide +kernel)
set_option maxRecDepth 20000 in
theorem gX5_agree_X5_in : GoodIn wsX5_agree (va_wsS RX5 78 yX5_in wsX5_in) := goodIn_app (goodIn_of _ (by decide +kernel)) ggX5_agree_X5_in
set_option maxRecDepth 20000 in
theorem ggX5_agree_X5_isPair : GoodIn wsX5_agree wsX5_isPair := goodIn_r _ [13, 14, 15, 16, 8, 17, 6, 7, 9, 18, 19, 20, 21, 22, 23, 24, 25, 26, 27, 28, 29, 30, 31, 32, 33, 34, 35, 36, 37, 38, 39, 40, 41, 42, 43] (by decide +kernel) (by decide +kernel)
set_option maxRecDepth 20000 in
theorem gX5_agree_X5_isPair : GoodIn wsX5_agree (wsV RX5 97 RX5 yX5_isPair wsX5_isPair) := goodIn_app (goodIn_of _ (by decide +kernel)) ggX5_agree_X5_isPair
theorem dX5_agree_0 : decode cX5_agree 0 = .ok (.aload_n 0, 1) := by decide +kernel
theorem dX5_agree_1 : decode cX5_agree 1 = .ok (.iload_n 1, 1) := by decide +kernel
theorem dX5_agree_2 : decode cX5_agree 2 = .ok (.iload_n 2, 1) := by decide +kernel
theorem dX5_agree_3 : decode cX5_agree 3 = .ok (.iload_n 3, 1) := by decide +kernel
theorem dX5_agree_4 : decode cX5_agree 4 = .ok (.iconst 0, 1) := by decide +kernel
theorem dX5_agree_5 : decode cX5_agree 5 = .ok (.ldc 141, 2) := by decide +kernel
theorem dX5_agree_7 : decode cX5_agree 7 = .ok (.invokestatic 78, 3) := by decide +kernel
theorem dX5_agree_10 : decode cX5_agree 10 = .ok (.ifCond .eq 19, 3) := by decide +kernel
theorem dX5_agree_13 : decode cX5_agree 13 = .ok (.iload 4, 2) := by decide +kernel
theorem dX5_agree_15 : decode cX5_agree 15 = .ok (.iconst 0, 1) := by decide +kernel
theorem dX5_agree_16 : decode cX5_agree 16 = .ok (.sipush 10000, 3) := by decide +kernel
theorem dX5_agree_19 : decode cX5_agree 19 = .ok (.invokestatic 78, 3) := by decide +kernel
theorem dX5_agree_22 : decode cX5_agree 22 = .ok (.ifCond .eq 7, 3) := by decide +kernel
theorem dX5_agree_25 : decode cX5_agree 25 = .ok (.iconst 1, 1) := by decide +kernel
theorem dX5_agree_26 : decode cX5_agree 26 = .ok (.goto 4, 3) := by decide +kernel
theorem dX5_agree_29 : decode cX5_agree 29 = .ok (.iconst 0, 1) := by decide +kernel
theorem dX5_agree_30 : decode cX5_agree 30 = .ok (.invokevirtual 97, 3) := by decide +kernel
theorem dX5_agree_33 : decode cX5_agree 33 = .ok (.ifCond .eq 44, 3) := by decide +kernel
theorem dX5_agree_36 : decode cX5_agree 36 = .ok (.iconst 4, 1) := by decide +kernel
theorem dX5_agree_37 : decode cX5_agree 37 = .ok (.iload_n 1, 1) := by decide +kernel
theorem dX5_agree_38 : decode cX5_agree 38 = .ok (.imul, 1) := by decide +kernel
theorem dX5_agree_39 : decode cX5_agree 39 = .ok (.iload_n 2, 1) := by decide +kernel
theorem dX5_agree_40 : decode cX5_agree 40 = .ok (.iadd, 1) := by decide +kernel
theorem dX5_agree_41 : decode cX5_agree 41 = .ok (.istore 6, 2) := by decide +kernel
theorem dX5_agree_43 : decode cX5_agree 43 = .ok (.aload_n 0, 1) := by decide +kernel
theorem dX5_agree_44 : decode cX5_agree 44 = .ok (.getfield 58, 3) := by decide +kernel
theorem dX5_agree_47 : decode cX5_agree 47 = .ok (.iload 6, 2) := by decide +kernel
theorem dX5_agree_49 : decode cX5_agree 49 = .ok (.iconst 1, 1) := by decide +kernel
theorem dX5_agree_50 : decode cX5_agree 50 = .ok (.bastore, 1) := by decide +kernel
theorem dX5_agree_51 : decode cX5_agree 51 = .ok (.aload_n 0, 1) := by decide +kernel
theorem dX5_agree_52 : decode cX5_agree 52 = .ok (.getfield 62, 3) := by decide +kernel
theorem dX5_agree_55 : decode cX5_agree 55 = .ok (.iload 6, 2) := by decide +kernel
theorem dX5_agree_57 : decode cX5_agree 57 = .ok (.iload_n 3, 1) := by decide +kernel
theorem dX5_agree_58 : decode cX5_agree 58 = .ok (.iastore, 1) := by decide +kernel
theorem dX5_agree_59 : decode cX5_agree 59 = .ok (.aload_n 0, 1) := by decide +kernel
theorem dX5_agree_60 : decode cX5_agree 60 = .ok (.getfield 65, 3) := by decide +kernel
theorem dX5_agree_63 : decode cX5_agree 63 = .ok (.iload 6, 2) := by decide +kernel
theorem dX5_agree_65 : decode cX5_agree 65 = .ok (.iload 4, 2) := by decide +kernel
theorem dX5_agree_67 : decode cX5_agree 67 = .ok (.iastore, 1) := by decide +kernel
theorem dX5_agree_68 : decode cX5_agree 68 = .ok (.aload_n 0, 1) := by decide +kernel
theorem dX5_agree_69 : decode cX5_agree 69 = .ok (.getfield 68, 3) := by decide +kernel
theorem dX5_agree_72 : decode cX5_agree 72 = .ok (.iload 6, 2) := by decide +kernel
theorem dX5_agree_74 : decode cX5_agree 74 = .ok (.iload 5, 2) := by decide +kernel
theorem dX5_agree_76 : decode cX5_agree 76 = .ok (.bastore, 1) := by decide +kernel
theorem dX5_agree_77 : decode cX5_agree 77 = .ok (.return_, 1) := by decide +kernel
set_option maxRecDepth 20000 in
theorem ggX5_promise_X5_in : GoodIn wsX5_promise wsX5_in := goodIn_r _ [6] (by decide +kernel) (by decide +kernel)
set_option maxRecDepth 20000 in
theorem gX5_promise_X5_in : GoodIn wsX5_promise (va_wsS RX5 78 yX5_in wsX5_in) := goodIn_app (goodIn_of _ (by decide +kernel)) ggX5_promise_X5_in
set_option maxRecDepth 20000 in
theorem ggX5_promise_X5_isPair : GoodIn wsX5_promise wsX5_isPair := goodIn_r _ [10, 11, 12, 13, 5, 14, 3, 4, 6, 15, 16, 17, 18, 19, 20, 21, 22, 23, 24, 25, 26, 27, 28, 29, 30, 31, 32, 33, 34, 35, 36, 37, 38, 39, 40] (by decide +kernel) (by decide +kernel)
set_option maxRecDepth 20000 in
theorem gX5_promise_X5_isPair : GoodIn wsX5_promise (wsV RX5 97 RX5 yX5_isPair wsX5_isPair) := goodIn_app (goodIn_of _ (by decide +kernel)) ggX5_promise_X5_isPair
theorem dX5_promise_0 : decode cX5_promise 0 = .ok (.aload_n 0, 1) := by decide +kernel
theorem dX5_promise_1 : decode cX5_promise 1 = .ok (.iload_n 1, 1) := by decide +kernel
theorem dX5_promise_2 : decode cX5_promise 2 = .ok (.iload_n 2, 1) := by decide +kernel
theorem dX5_promise_3 : decode cX5_promise 3 = .ok (.iload_n 3, 1) := by decide +kernel
theorem dX5_promise_4 : decode cX5_promise 4 = .ok (.iconst 0, 1) := by decide +kernel
theorem dX5_promise_5 : decode cX5_promise 5 = .ok (.ldc 142, 2) := by decide +kernel
theorem dX5_promise_7 : decode cX5_promise 7 = .ok (.invokestatic 78, 3) := by decide +kernel
theorem dX5_promise_10 : decode cX5_promise 10 = .ok (.invokevirtual 97, 3) := by decide +kernel
theorem dX5_promise_13 : decode cX5_promise 13 = .ok (.ifCond .ne 5, 3) := by decide +kernel
theorem dX5_promise_16 : decode cX5_promise 16 = .ok (.iconst 0, 1) := by decide +kernel
theorem dX5_promise_17 : decode cX5_promise 17 = .ok (.ireturn, 1) := by decide +kernel
theorem dX5_promise_18 : decode cX5_promise 18 = .ok (.aload_n 0, 1) := by decide +kernel
theorem dX5_promise_19 : decode cX5_promise 19 = .ok (.getfield 71, 3) := by decide +kernel
theorem dX5_promise_22 : decode cX5_promise 22 = .ok (.iconst 4, 1) := by decide +kernel
theorem dX5_promise_23 : decode cX5_promise 23 = .ok (.iload_n 1, 1) := by decide +kernel
theorem dX5_promise_24 : decode cX5_promise 24 = .ok (.imul, 1) := by decide +kernel
theorem dX5_promise_25 : decode cX5_promise 25 = .ok (.iload_n 2, 1) := by decide +kernel
theorem dX5_promise_26 : decode cX5_promise 26 = .ok (.iadd, 1) := by decide +kernel
theorem dX5_promise_27 : decode cX5_promise 27 = .ok (.iaload, 1) := by decide +kernel
theorem dX5_promise_28 : decode cX5_promise 28 = .ok (.istore 4, 2) := by decide +kernel
theorem dX5_promise_30 : decode cX5_promise 30 = .ok (.aload_n 0, 1) := by decide +kernel
theorem dX5_promise_31 : decode cX5_promise 31 = .ok (.getfield 71, 3) := by decide +kernel
theorem dX5_promise_34 : decode cX5_promise 34 = .ok (.iconst 4, 1) := by decide +kernel
theorem dX5_promise_35 : decode cX5_promise 35 = .ok (.iload_n 1, 1) := by decide +kernel
theorem dX5_promise_36 : decode cX5_promise 36 = .ok (.imul, 1) := by decide +kernel
theorem dX5_promise_37 : decode cX5_promise 37 = .ok (.iload_n 2, 1) := by decide +kernel
theorem dX5_promise_38 : decode cX5_promise 38 = .ok (.iadd, 1) := by decide +kernel
theorem dX5_promise_39 : decode cX5_promise 39 = .ok (.iload_n 3, 1) := by decide +kernel
theorem dX5_promise_40 : decode cX5_promise 40 = .ok (.iastore, 1) := by decide +kernel
theorem dX5_promise_41 : decode cX5_promise 41 = .ok (.iload 4, 2) := by decide +kernel
theorem dX5_promise_43 : decode cX5_promise 43 = .ok (.ireturn, 1) := by decide +kernel
set_option maxRecDepth 20000 in
theorem ggX5_setRate_X5_isOperator : GoodIn wsX5_setRate wsX5_isOperator := goodIn_r _ [7, 8, 9, 6, 10] (by decide +kernel) (by decide +kernel)
set_option maxRecDepth 20000 in
theorem gX5_setRate_X5_isOperator : GoodIn wsX5_setRate (va_wsS RX5 82 yX5_isOperator wsX5_isOperator) := goodIn_app (goodIn_of _ (by decide +kernel)) ggX5_setRate_X5_isOperator
set_option maxRecDepth 20000 in
theorem ggX5_setRate_X5_in : GoodIn wsX5_setRate wsX5_in := goodIn_r _ [10] (by decide +kernel) (by decide +kernel)
set_option maxRecDepth 20000 in
theorem gX5_setRate_X5_in : GoodIn wsX5_setRate (va_wsS RX5 78 yX5_in wsX5_in) := goodIn_app (goodIn_of _ (by decide +kernel)) ggX5_setRate_X5_in
theorem dX5_setRate_0 : decode cX5_setRate 0 = .ok (.aload_n 0, 1) := by decide +kernel
theorem dX5_setRate_1 : decode cX5_setRate 1 = .ok (.iload_n 1, 1) := by decide +kernel
theorem dX5_setRate_2 : decode cX5_setRate 2 = .ok (.invokestatic 82, 3) := by decide +kernel
theorem dX5_setRate_5 : decode cX5_setRate 5 = .ok (.ifCond .ne 7, 3) := by decide +kernel
theorem dX5_setRate_8 : decode cX5_setRate 8 = .ok (.iconst 1, 1) := by decide +kernel
theorem dX5_setRate_9 : decode cX5_setRate 9 = .ok (.goto 18, 3) := by decide +kernel
theorem dX5_setRate_12 : decode cX5_setRate 12 = .ok (.iload_n 2, 1) := by decide +kernel
theorem dX5_setRate_13 : decode cX5_setRate 13 = .ok (.iconst 1, 1) := by decide +kernel
theorem dX5_setRate_14 : decode cX5_setRate 14 = .ok (.ldc 143, 2) := by decide +kernel
theorem dX5_setRate_16 : decode cX5_setRate 16 = .ok (.invokestatic 78, 3) := by decide +kernel
theorem dX5_setRate_19 : decode cX5_setRate 19 = .ok (.ifCond .ne 7, 3) := by decide +kernel
theorem dX5_setRate_22 : decode cX5_setRate 22 = .ok (.iconst 2, 1) := by decide +kernel
theorem dX5_setRate_23 : decode cX5_setRate 23 = .ok (.goto 4, 3) := by decide +kernel
theorem dX5_setRate_26 : decode cX5_setRate 26 = .ok (.iconst 0, 1) := by decide +kernel
theorem dX5_setRate_27 : decode cX5_setRate 27 = .ok (.putfield 74, 3) := by decide +kernel
theorem dX5_setRate_30 : decode cX5_setRate 30 = .ok (.aload_n 0, 1) := by decide +kernel
theorem dX5_setRate_31 : decode cX5_setRate 31 = .ok (.getfield 74, 3) := by decide +kernel
theorem dX5_setRate_34 : decode cX5_setRate 34 = .ok (.ifCond .le 5, 3) := by decide +kernel
theorem dX5_setRate_37 : decode cX5_setRate 37 = .ok (.iconst 0, 1) := by decide +kernel
theorem dX5_setRate_38 : decode cX5_setRate 38 = .ok (.ireturn, 1) := by decide +kernel
theorem dX5_setRate_39 : decode cX5_setRate 39 = .ok (.aload_n 0, 1) := by decide +kernel
theorem dX5_setRate_40 : decode cX5_setRate 40 = .ok (.getfield 19, 3) := by decide +kernel
theorem dX5_setRate_43 : decode cX5_setRate 43 = .ok (.iload_n 1, 1) := by decide +kernel
theorem dX5_setRate_44 : decode cX5_setRate 44 = .ok (.iaload, 1) := by decide +kernel
theorem dX5_setRate_45 : decode cX5_setRate 45 = .ok (.istore_n 3, 1) := by decide +kernel
theorem dX5_setRate_46 : decode cX5_setRate 46 = .ok (.aload_n 0, 1) := by decide +kernel
theorem dX5_setRate_47 : decode cX5_setRate 47 = .ok (.getfield 19, 3) := by decide +kernel
theorem dX5_setRate_50 : decode cX5_setRate 50 = .ok (.iload_n 1, 1) := by decide +kernel
theorem dX5_setRate_51 : decode cX5_setRate 51 = .ok (.iload_n 2, 1) := by decide +kernel
theorem dX5_setRate_52 : decode cX5_setRate 52 = .ok (.iastore, 1) := by decide +kernel
theorem dX5_setRate_53 : decode cX5_setRate 53 = .ok (.iload_n 3, 1) := by decide +kernel
theorem dX5_setRate_54 : decode cX5_setRate 54 = .ok (.ireturn, 1) := by decide +kernel
theorem dX5_nextMonth_0 : decode cX5_nextMonth 0 = .ok (.aload_n 0, 1) := by decide +kernel
theorem dX5_nextMonth_1 : decode cX5_nextMonth 1 = .ok (.aload_n 0, 1) := by decide +kernel
theorem dX5_nextMonth_2 : decode cX5_nextMonth 2 = .ok (.getfield 101, 3) := by decide +kernel
theorem dX5_nextMonth_5 : decode cX5_nextMonth 5 = .ok (.bipush 35, 2) := by decide +kernel
theorem dX5_nextMonth_7 : decode cX5_nextMonth 7 = .ok (.if_icmp .ne 7, 3) := by decide +kernel
theorem dX5_nextMonth_10 : decode cX5_nextMonth 10 = .ok (.iconst 1, 1) := by decide +kernel
theorem dX5_nextMonth_11 : decode cX5_nextMonth 11 = .ok (.goto 4, 3) := by decide +kernel
theorem dX5_nextMonth_14 : decode cX5_nextMonth 14 = .ok (.iconst 0, 1) := by decide +kernel
theorem dX5_nextMonth_15 : decode cX5_nextMonth 15 = .ok (.putfield 74, 3) := by decide +kernel
theorem dX5_nextMonth_18 : decode cX5_nextMonth 18 = .ok (.aload_n 0, 1) := by decide +kernel
theorem dX5_nextMonth_19 : decode cX5_nextMonth 19 = .ok (.getfield 74, 3) := by decide +kernel
theorem dX5_nextMonth_22 : decode cX5_nextMonth 22 = .ok (.ifCond .le 5, 3) := by decide +kernel
theorem dX5_nextMonth_25 : decode cX5_nextMonth 25 = .ok (.iconst 0, 1) := by decide +kernel
theorem dX5_nextMonth_26 : decode cX5_nextMonth 26 = .ok (.ireturn, 1) := by decide +kernel
theorem dX5_nextMonth_27 : decode cX5_nextMonth 27 = .ok (.aload_n 0, 1) := by decide +kernel
theorem dX5_nextMonth_28 : decode cX5_nextMonth 28 = .ok (.dup, 1) := by decide +kernel
theorem dX5_nextMonth_29 : decode cX5_nextMonth 29 = .ok (.getfield 101, 3) := by decide +kernel
theorem dX5_nextMonth_32 : decode cX5_nextMonth 32 = .ok (.iconst 1, 1) := by decide +kernel
theorem dX5_nextMonth_33 : decode cX5_nextMonth 33 = .ok (.iadd, 1) := by decide +kernel
theorem dX5_nextMonth_34 : decode cX5_nextMonth 34 = .ok (.putfield 101, 3) := by decide +kernel
theorem dX5_nextMonth_37 : decode cX5_nextMonth 37 = .ok (.iconst 0, 1) := by decide +kernel
theorem dX5_nextMonth_38 : decode cX5_nextMonth 38 = .ok (.istore_n 1, 1) := by decide +kernel
theorem dX5_nextMonth_39 : decode cX5_nextMonth 39 = .ok (.iload_n 1, 1) := by decide +kernel
theorem dX5_nextMonth_40 : decode cX5_nextMonth 40 = .ok (.aload_n 0, 1) := by decide +kernel
theorem dX5_nextMonth_41 : decode cX5_nextMonth 41 = .ok (.getfield 89, 3) := by decide +kernel
theorem dX5_nextMonth_44 : decode cX5_nextMonth 44 = .ok (.if_icmp .ge 60, 3) := by decide +kernel
theorem dX5_nextMonth_47 : decode cX5_nextMonth 47 = .ok (.aload_n 0, 1) := by decide +kernel
theorem dX5_nextMonth_48 : decode cX5_nextMonth 48 = .ok (.getfield 43, 3) := by decide +kernel
theorem dX5_nextMonth_51 : decode cX5_nextMonth 51 = .ok (.iload_n 1, 1) := by decide +kernel
theorem dX5_nextMonth_52 : decode cX5_nextMonth 52 = .ok (.iaload, 1) := by decide +kernel
theorem dX5_nextMonth_53 : decode cX5_nextMonth 53 = .ok (.iconst 2, 1) := by decide +kernel
theorem dX5_nextMonth_54 : decode cX5_nextMonth 54 = .ok (.if_icmp .ne 22, 3) := by decide +kernel
theorem dX5_nextMonth_57 : decode cX5_nextMonth 57 = .ok (.aload_n 0, 1) := by decide +kernel
theorem dX5_nextMonth_58 : decode cX5_nextMonth 58 = .ok (.getfield 101, 3) := by decide +kernel
theorem dX5_nextMonth_61 : decode cX5_nextMonth 61 = .ok (.aload_n 0, 1) := by decide +kernel
theorem dX5_nextMonth_62 : decode cX5_nextMonth 62 = .ok (.getfield 49, 3) := by decide +kernel
theorem dX5_nextMonth_65 : decode cX5_nextMonth 65 = .ok (.iload_n 1, 1) := by decide +kernel
theorem dX5_nextMonth_66 : decode cX5_nextMonth 66 = .ok (.iaload, 1) := by decide +kernel
theorem dX5_nextMonth_67 : decode cX5_nextMonth 67 = .ok (.iconst 2, 1) := by decide +kernel
theorem dX5_nextMonth_68 : decode cX5_nextMonth 68 = .ok (.iadd, 1) := by decide +kernel
theorem dX5_nextMonth_69 : decode cX5_nextMonth 69 = .ok (.if_icmp .ne 7, 3) := by decide +kernel
theorem dX5_nextMonth_72 : decode cX5_nextMonth 72 = .ok (.iconst 1, 1) := by decide +kernel
theorem dX5_nextMonth_73 : decode cX5_nextMonth 73 = .ok (.goto 4, 3) := by decide +kernel
theorem dX5_nextMonth_76 : decode cX5_nextMonth 76 = .ok (.iconst 0, 1) := by decide +kernel
theorem dX5_nextMonth_77 : decode cX5_nextMonth 77 = .ok (.istore_n 2, 1) := by decide +kernel
theorem dX5_nextMonth_78 : decode cX5_nextMonth 78 = .ok (.aload_n 0, 1) := by decide +kernel
theorem dX5_nextMonth_79 : decode cX5_nextMonth 79 = .ok (.getfield 43, 3) := by decide +kernel
theorem dX5_nextMonth_82 : decode cX5_nextMonth 82 = .ok (.iload_n 1, 1) := by decide +kernel
theorem dX5_nextMonth_83 : decode cX5_nextMonth 83 = .ok (.iload_n 2, 1) := by decide +kernel
theorem dX5_nextMonth_84 : decode cX5_nextMonth 84 = .ok (.ifCond .eq 7, 3) := by decide +kernel
theorem dX5_nextMonth_87 : decode cX5_nextMonth 87 = .ok (.iconst 4, 1) := by decide +kernel
theorem dX5_nextMonth_88 : decode cX5_nextMonth 88 = .ok (.goto 9, 3) := by decide +kernel
theorem dX5_nextMonth_91 : decode cX5_nextMonth 91 = .ok (.aload_n 0, 1) := by decide +kernel
theorem dX5_nextMonth_92 : decode cX5_nextMonth 92 = .ok (.getfield 43, 3) := by decide +kernel
theorem dX5_nextMonth_95 : decode cX5_nextMonth 95 = .ok (.iload_n 1, 1) := by decide +kernel
theorem dX5_nextMonth_96 : decode cX5_nextMonth 96 = .ok (.iaload, 1) := by decide +kernel
theorem dX5_nextMonth_97 : decode cX5_nextMonth 97 = .ok (.iastore, 1) := by decide +kernel
theorem dX5_nextMonth_98 : decode cX5_nextMonth 98 = .ok (.iinc 1 1, 3) := by decide +kernel
theorem dX5_nextMonth_101 : decode cX5_nextMonth 101 = .ok (.goto (-62), 3) := by decide +kernel
theorem dX5_nextMonth_104 : decode cX5_nextMonth 104 = .ok (.aload_n 0, 1) := by decide +kernel
theorem dX5_nextMonth_105 : decode cX5_nextMonth 105 = .ok (.getfield 101, 3) := by decide +kernel
theorem dX5_nextMonth_108 : decode cX5_nextMonth 108 = .ok (.ireturn, 1) := by decide +kernel
theorem dX5_month_0 : decode cX5_month 0 = .ok (.aload_n 0, 1) := by decide +kernel
theorem dX5_month_1 : decode cX5_month 1 = .ok (.iconst 0, 1) := by decide +kernel
theorem dX5_month_2 : decode cX5_month 2 = .ok (.putfield 74, 3) := by decide +kernel
theorem dX5_month_5 : decode cX5_month 5 = .ok (.aload_n 0, 1) := by decide +kernel
theorem dX5_month_6 : decode cX5_month 6 = .ok (.getfield 101, 3) := by decide +kernel
theorem dX5_month_9 : decode cX5_month 9 = .ok (.ireturn, 1) := by decide +kernel
set_option maxRecDepth 20000 in
theorem ggX5_owedIn_X5_in : GoodIn wsX5_owedIn wsX5_in := goodIn_r _ [9] (by decide +kernel) (by decide +kernel)
set_option maxRecDepth 20000 in
theorem gX5_owedIn_X5_in : GoodIn wsX5_owedIn (va_wsS RX5 78 yX5_in wsX5_in) := goodIn_app (goodIn_of _ (by decide +kernel)) ggX5_owedIn_X5_in
set_option maxRecDepth 20000 in
theorem ggX5_owedIn_X5_owedOf : GoodIn wsX5_owedIn wsX5_owedOf := goodIn_r _ [13, 2, 3, 4, 5, 14, 15, 16, 17, 18, 19, 20, 21, 22, 23, 8, 24, 25, 26, 27, 28, 29, 30, 31, 32, 33, 34, 35, 36, 37, 38, 39, 40, 41, 42, 43, 44, 45, 46, 47, 48, 49, 50, 51, 52, 53, 54, 55, 56] (by decide +kernel) (by decide +kernel)
set_option maxRecDepth 20000 in
theorem gX5_owedIn_X5_owedOf : GoodIn wsX5_owedIn (wsV RX5 138 RX5 yX5_owedOf wsX5_owedOf) := goodIn_app (goodIn_of _ (by decide +kernel)) ggX5_owedIn_X5_owedOf
theorem dX5_owedIn_0 : decode cX5_owedIn 0 = .ok (.lconst 0, 1) := by decide +kernel
theorem dX5_owedIn_1 : decode cX5_owedIn 1 = .ok (.lstore 4, 2) := by decide +kernel
theorem dX5_owedIn_3 : decode cX5_owedIn 3 = .ok (.iconst 0, 1) := by decide +kernel
theorem dX5_owedIn_4 : decode cX5_owedIn 4 = .ok (.istore 6, 2) := by decide +kernel
theorem dX5_owedIn_6 : decode cX5_owedIn 6 = .ok (.iload 6, 2) := by decide +kernel
theorem dX5_owedIn_8 : decode cX5_owedIn 8 = .ok (.aload_n 0, 1) := by decide +kernel
theorem dX5_owedIn_9 : decode cX5_owedIn 9 = .ok (.getfield 89, 3) := by decide +kernel
theorem dX5_owedIn_12 : decode cX5_owedIn 12 = .ok (.if_icmp .ge 78, 3) := by decide +kernel
theorem dX5_owedIn_15 : decode cX5_owedIn 15 = .ok (.aload_n 0, 1) := by decide +kernel
theorem dX5_owedIn_16 : decode cX5_owedIn 16 = .ok (.getfield 43, 3) := by decide +kernel
theorem dX5_owedIn_19 : decode cX5_owedIn 19 = .ok (.iload 6, 2) := by decide +kernel
theorem dX5_owedIn_21 : decode cX5_owedIn 21 = .ok (.iaload, 1) := by decide +kernel
theorem dX5_owedIn_22 : decode cX5_owedIn 22 = .ok (.ifCond .eq 38, 3) := by decide +kernel
theorem dX5_owedIn_25 : decode cX5_owedIn 25 = .ok (.aload_n 0, 1) := by decide +kernel
theorem dX5_owedIn_26 : decode cX5_owedIn 26 = .ok (.getfield 22, 3) := by decide +kernel
theorem dX5_owedIn_29 : decode cX5_owedIn 29 = .ok (.aload_n 0, 1) := by decide +kernel
theorem dX5_owedIn_30 : decode cX5_owedIn 30 = .ok (.getfield 34, 3) := by decide +kernel
theorem dX5_owedIn_33 : decode cX5_owedIn 33 = .ok (.iload 6, 2) := by decide +kernel
theorem dX5_owedIn_35 : decode cX5_owedIn 35 = .ok (.iaload, 1) := by decide +kernel
theorem dX5_owedIn_36 : decode cX5_owedIn 36 = .ok (.iaload, 1) := by decide +kernel
theorem dX5_owedIn_37 : decode cX5_owedIn 37 = .ok (.iload_n 1, 1) := by decide +kernel
theorem dX5_owedIn_38 : decode cX5_owedIn 38 = .ok (.if_icmp .ne 22, 3) := by decide +kernel
theorem dX5_owedIn_41 : decode cX5_owedIn 41 = .ok (.aload_n 0, 1) := by decide +kernel
theorem dX5_owedIn_42 : decode cX5_owedIn 42 = .ok (.getfield 46, 3) := by decide +kernel
theorem dX5_owedIn_45 : decode cX5_owedIn 45 = .ok (.iload 6, 2) := by decide +kernel
theorem dX5_owedIn_47 : decode cX5_owedIn 47 = .ok (.iaload, 1) := by decide +kernel
theorem dX5_owedIn_48 : decode cX5_owedIn 48 = .ok (.iload_n 2, 1) := by decide +kernel
theorem dX5_owedIn_49 : decode cX5_owedIn 49 = .ok (.iload_n 3, 1) := by decide +kernel
theorem dX5_owedIn_50 : decode cX5_owedIn 50 = .ok (.invokestatic 78, 3) := by decide +kernel
theorem dX5_owedIn_53 : decode cX5_owedIn 53 = .ok (.ifCond .eq 7, 3) := by decide +kernel
theorem dX5_owedIn_56 : decode cX5_owedIn 56 = .ok (.iconst 1, 1) := by decide +kernel
theorem dX5_owedIn_57 : decode cX5_owedIn 57 = .ok (.goto 4, 3) := by decide +kernel
theorem dX5_owedIn_60 : decode cX5_owedIn 60 = .ok (.iconst 0, 1) := by decide +kernel
theorem dX5_owedIn_61 : decode cX5_owedIn 61 = .ok (.istore 7, 2) := by decide +kernel
theorem dX5_owedIn_63 : decode cX5_owedIn 63 = .ok (.lload 4, 2) := by decide +kernel
theorem dX5_owedIn_65 : decode cX5_owedIn 65 = .ok (.iload 7, 2) := by decide +kernel
theorem dX5_owedIn_67 : decode cX5_owedIn 67 = .ok (.ifCond .eq 13, 3) := by decide +kernel
theorem dX5_owedIn_70 : decode cX5_owedIn 70 = .ok (.aload_n 0, 1) := by decide +kernel
theorem dX5_owedIn_71 : decode cX5_owedIn 71 = .ok (.iload 6, 2) := by decide +kernel
theorem dX5_owedIn_73 : decode cX5_owedIn 73 = .ok (.invokevirtual 138, 3) := by decide +kernel
theorem dX5_owedIn_76 : decode cX5_owedIn 76 = .ok (.i2l, 1) := by decide +kernel
theorem dX5_owedIn_77 : decode cX5_owedIn 77 = .ok (.goto 4, 3) := by decide +kernel
theorem dX5_owedIn_80 : decode cX5_owedIn 80 = .ok (.lconst 0, 1) := by decide +kernel
theorem dX5_owedIn_81 : decode cX5_owedIn 81 = .ok (.ladd, 1) := by decide +kernel
theorem dX5_owedIn_82 : decode cX5_owedIn 82 = .ok (.lstore 4, 2) := by decide +kernel
theorem dX5_owedIn_84 : decode cX5_owedIn 84 = .ok (.iinc 6 1, 3) := by decide +kernel
theorem dX5_owedIn_87 : decode cX5_owedIn 87 = .ok (.goto (-81), 3) := by decide +kernel
theorem dX5_owedIn_90 : decode cX5_owedIn 90 = .ok (.lload 4, 2) := by decide +kernel
theorem dX5_owedIn_92 : decode cX5_owedIn 92 = .ok (.lreturn, 1) := by decide +kernel
set_option maxRecDepth 20000 in
theorem ggX5_owed_X5_in : GoodIn wsX5_owed wsX5_in := goodIn_r _ [5] (by decide +kernel) (by decide +kernel)
set_option maxRecDepth 20000 in
theorem gX5_owed_X5_in : GoodIn wsX5_owed (va_wsS RX5 78 yX5_in wsX5_in) := goodIn_app (goodIn_of _ (by decide +kernel)) ggX5_owed_X5_in
set_option maxRecDepth 20000 in
theorem ggX5_owed_X5_isPair : GoodIn wsX5_owed wsX5_isPair := goodIn_r _ [9, 10, 11, 12, 4, 13, 2, 3, 5, 44, 45, 46, 47, 48, 49, 50, 51, 52, 53, 54, 55, 56, 57, 58, 59, 60, 61, 62, 63, 64, 65, 66, 67, 68, 69] (by decide +kernel) (by decide +kernel)
set_option maxRecDepth 20000 in
theorem gX5_owed_X5_isPair : GoodIn wsX5_owed (wsV RX5 97 RX5 yX5_isPair wsX5_isPair) := goodIn_app (goodIn_of _ (by decide +kernel)) ggX5_owed_X5_isPair
set_option maxRecDepth 20000 in
theorem ggX5_owed_X5_owedIn : GoodIn wsX5_owed wsX5_owedIn := goodIn_r _ [17, 18, 19, 20, 21, 22, 2, 3, 4, 5, 23, 24, 25, 26, 27, 28, 29, 30, 31, 32, 33, 34, 35, 36, 37, 38, 39, 40, 41, 42, 43, 44, 45, 46, 47, 48, 49, 50, 51, 52, 53, 54, 55, 56, 57, 58, 59, 60, 61, 62, 63, 64, 65, 66, 67, 68, 69] (by decide +kernel) (by decide +kernel)
set_option maxRecDepth 20000 in
theorem gX5_owed_X5_owedIn : GoodIn wsX5_owed (wsV RX5 144 RX5 yX5_owedIn wsX5_owedIn) := goodIn_app (goodIn_of _ (by decide +kernel)) ggX5_owed_X5_owedIn
theorem dX5_owed_0 : decode cX5_owed 0 = .ok (.aload_n 0, 1) := by decide +kernel
theorem dX5_owed_1 : decode cX5_owed 1 = .ok (.iload_n 1, 1) := by decide +kernel
theorem dX5_owed_2 : decode cX5_owed 2 = .ok (.iload_n 2, 1) := by decide +kernel
theorem dX5_owed_3 : decode cX5_owed 3 = .ok (.iload_n 3, 1) := by decide +kernel
theorem dX5_owed_4 : decode cX5_owed 4 = .ok (.iconst 0, 1) := by decide +kernel
theorem dX5_owed_5 : decode cX5_owed 5 = .ok (.aload_n 0, 1) := by decide +kernel
theorem dX5_owed_6 : decode cX5_owed 6 = .ok (.getfield 101, 3) := by decide +kernel
theorem dX5_owed_9 : decode cX5_owed 9 = .ok (.invokestatic 78, 3) := by decide +kernel
theorem dX5_owed_12 : decode cX5_owed 12 = .ok (.invokevirtual 97, 3) := by decide +kernel
theorem dX5_owed_15 : decode cX5_owed 15 = .ok (.ifCond .eq 17, 3) := by decide +kernel
theorem dX5_owed_18 : decode cX5_owed 18 = .ok (.aload_n 0, 1) := by decide +kernel
theorem dX5_owed_19 : decode cX5_owed 19 = .ok (.iconst 4, 1) := by decide +kernel
theorem dX5_owed_20 : decode cX5_owed 20 = .ok (.iload_n 1, 1) := by decide +kernel
theorem dX5_owed_21 : decode cX5_owed 21 = .ok (.imul, 1) := by decide +kernel
theorem dX5_owed_22 : decode cX5_owed 22 = .ok (.iload_n 2, 1) := by decide +kernel
theorem dX5_owed_23 : decode cX5_owed 23 = .ok (.iadd, 1) := by decide +kernel
theorem dX5_owed_24 : decode cX5_owed 24 = .ok (.iload_n 3, 1) := by decide +kernel
theorem dX5_owed_25 : decode cX5_owed 25 = .ok (.iload_n 3, 1) := by decide +kernel
theorem dX5_owed_26 : decode cX5_owed 26 = .ok (.invokevirtual 144, 3) := by decide +kernel
theorem dX5_owed_29 : decode cX5_owed 29 = .ok (.goto 4, 3) := by decide +kernel
theorem dX5_owed_32 : decode cX5_owed 32 = .ok (.lconst 0, 1) := by decide +kernel
theorem dX5_owed_33 : decode cX5_owed 33 = .ok (.lreturn, 1) := by decide +kernel
set_option maxRecDepth 20000 in
theorem ggX5_shortfall_X5_in : GoodIn wsX5_shortfall wsX5_in := goodIn_r _ [7] (by decide +kernel) (by decide +kernel)
set_option maxRecDepth 20000 in
theorem gX5_shortfall_X5_in : GoodIn wsX5_shortfall (va_wsS RX5 78 yX5_in wsX5_in) := goodIn_app (goodIn_of _ (by decide +kernel)) ggX5_shortfall_X5_in
set_option maxRecDepth 20000 in
theorem ggX5_shortfall_X5_isPair : GoodIn wsX5_shortfall wsX5_isPair := goodIn_r _ [11, 2, 12, 13, 6, 14, 4, 5, 7, 45, 46, 47, 48, 49, 50, 51, 52, 53, 54, 55, 56, 57, 58, 59, 60, 61, 62, 63, 64, 65, 66, 67, 68, 69, 70] (by decide +kernel) (by decide +kernel)
set_option maxRecDepth 20000 in
theorem gX5_shortfall_X5_isPair : GoodIn wsX5_shortfall (wsV RX5 97 RX5 yX5_isPair wsX5_isPair) := goodIn_app (goodIn_of _ (by decide +kernel)) ggX5_shortfall_X5_isPair
set_option maxRecDepth 20000 in
theorem ggX5_shortfall_X5_owedIn : GoodIn wsX5_shortfall wsX5_owedIn := goodIn_r _ [18, 19, 20, 21, 22, 23, 4, 5, 6, 7, 24, 25, 26, 27, 28, 29, 30, 31, 32, 33, 34, 35, 36, 37, 38, 39, 40, 41, 42, 43, 44, 45, 46, 47, 48, 49, 50, 51, 52, 53, 54, 55, 56, 57, 58, 59, 60, 61, 62, 63, 64, 65, 66, 67, 68, 69, 70] (by decide +kernel) (by decide +kernel)
set_option maxRecDepth 20000 in
theorem gX5_shortfall_X5_owedIn : GoodIn wsX5_shortfall (wsV RX5 144 RX5 yX5_owedIn wsX5_owedIn) := goodIn_app (goodIn_of _ (by decide +kernel)) ggX5_shortfall_X5_owedIn
theorem dX5_shortfall_0 : decode cX5_shortfall 0 = .ok (.aload_n 0, 1) := by decide +kernel
theorem dX5_shortfall_1 : decode cX5_shortfall 1 = .ok (.iload_n 1, 1) := by decide +kernel
theorem dX5_shortfall_2 : decode cX5_shortfall 2 = .ok (.iload_n 2, 1) := by decide +kernel
theorem dX5_shortfall_3 : decode cX5_shortfall 3 = .ok (.iload_n 3, 1) := by decide +kernel
theorem dX5_shortfall_4 : decode cX5_shortfall 4 = .ok (.iconst 0, 1) := by decide +kernel
theorem dX5_shortfall_5 : decode cX5_shortfall 5 = .ok (.iconst 1, 1) := by decide +kernel
theorem dX5_shortfall_6 : decode cX5_shortfall 6 = .ok (.invokestatic 78, 3) := by decide +kernel
theorem dX5_shortfall_9 : decode cX5_shortfall 9 = .ok (.invokevirtual 97, 3) := by decide +kernel
theorem dX5_shortfall_12 : decode cX5_shortfall 12 = .ok (.ifCond .eq 26, 3) := by decide +kernel
theorem dX5_shortfall_15 : decode cX5_shortfall 15 = .ok (.aload_n 0, 1) := by decide +kernel
theorem dX5_shortfall_16 : decode cX5_shortfall 16 = .ok (.aload_n 0, 1) := by decide +kernel
theorem dX5_shortfall_17 : decode cX5_shortfall 17 = .ok (.getfield 101, 3) := by decide +kernel
theorem dX5_shortfall_20 : decode cX5_shortfall 20 = .ok (.bipush 12, 2) := by decide +kernel
theorem dX5_shortfall_22 : decode cX5_shortfall 22 = .ok (.iload_n 3, 1) := by decide +kernel
theorem dX5_shortfall_23 : decode cX5_shortfall 23 = .ok (.imul, 1) := by decide +kernel
theorem dX5_shortfall_24 : decode cX5_shortfall 24 = .ok (.bipush 12, 2) := by decide +kernel
theorem dX5_shortfall_26 : decode cX5_shortfall 26 = .ok (.iadd, 1) := by decide +kernel
theorem dX5_shortfall_27 : decode cX5_shortfall 27 = .ok (.if_icmp .ge 7, 3) := by decide +kernel
theorem dX5_shortfall_30 : decode cX5_shortfall 30 = .ok (.iconst 3, 1) := by decide +kernel
theorem dX5_shortfall_31 : decode cX5_shortfall 31 = .ok (.goto 4, 3) := by decide +kernel
theorem dX5_shortfall_34 : decode cX5_shortfall 34 = .ok (.iconst 0, 1) := by decide +kernel
theorem dX5_shortfall_35 : decode cX5_shortfall 35 = .ok (.putfield 74, 3) := by decide +kernel
theorem dX5_shortfall_38 : decode cX5_shortfall 38 = .ok (.aload_n 0, 1) := by decide +kernel
theorem dX5_shortfall_39 : decode cX5_shortfall 39 = .ok (.getfield 74, 3) := by decide +kernel
theorem dX5_shortfall_42 : decode cX5_shortfall 42 = .ok (.ifCond .le 5, 3) := by decide +kernel
theorem dX5_shortfall_45 : decode cX5_shortfall 45 = .ok (.lconst 0, 1) := by decide +kernel
theorem dX5_shortfall_46 : decode cX5_shortfall 46 = .ok (.lreturn, 1) := by decide +kernel
theorem dX5_shortfall_47 : decode cX5_shortfall 47 = .ok (.iconst 4, 1) := by decide +kernel
theorem dX5_shortfall_48 : decode cX5_shortfall 48 = .ok (.iload_n 1, 1) := by decide +kernel
theorem dX5_shortfall_49 : decode cX5_shortfall 49 = .ok (.imul, 1) := by decide +kernel
theorem dX5_shortfall_50 : decode cX5_shortfall 50 = .ok (.iload_n 2, 1) := by decide +kernel
theorem dX5_shortfall_51 : decode cX5_shortfall 51 = .ok (.iadd, 1) := by decide +kernel
theorem dX5_shortfall_52 : decode cX5_shortfall 52 = .ok (.istore 4, 2) := by decide +kernel
theorem dX5_shortfall_54 : decode cX5_shortfall 54 = .ok (.aload_n 0, 1) := by decide +kernel
theorem dX5_shortfall_55 : decode cX5_shortfall 55 = .ok (.getfield 71, 3) := by decide +kernel
theorem dX5_shortfall_58 : decode cX5_shortfall 58 = .ok (.iload 4, 2) := by decide +kernel
theorem dX5_shortfall_60 : decode cX5_shortfall 60 = .ok (.iaload, 1) := by decide +kernel
theorem dX5_shortfall_61 : decode cX5_shortfall 61 = .ok (.i2l, 1) := by decide +kernel
theorem dX5_shortfall_62 : decode cX5_shortfall 62 = .ok (.aload_n 0, 1) := by decide +kernel
theorem dX5_shortfall_63 : decode cX5_shortfall 63 = .ok (.iload 4, 2) := by decide +kernel
theorem dX5_shortfall_65 : decode cX5_shortfall 65 = .ok (.bipush 12, 2) := by decide +kernel
theorem dX5_shortfall_67 : decode cX5_shortfall 67 = .ok (.iload_n 3, 1) := by decide +kernel
theorem dX5_shortfall_68 : decode cX5_shortfall 68 = .ok (.imul, 1) := by decide +kernel
theorem dX5_shortfall_69 : decode cX5_shortfall 69 = .ok (.bipush 12, 2) := by decide +kernel
theorem dX5_shortfall_71 : decode cX5_shortfall 71 = .ok (.iload_n 3, 1) := by decide +kernel
theorem dX5_shortfall_72 : decode cX5_shortfall 72 = .ok (.imul, 1) := by decide +kernel
theorem dX5_shortfall_73 : decode cX5_shortfall 73 = .ok (.bipush 11, 2) := by decide +kernel
theorem dX5_shortfall_75 : decode cX5_shortfall 75 = .ok (.iadd, 1) := by decide +kernel
theorem dX5_shortfall_76 : decode cX5_shortfall 76 = .ok (.invokevirtual 144, 3) := by decide +kernel
theorem dX5_shortfall_79 : decode cX5_shortfall 79 = .ok (.lsub, 1) := by decide +kernel
theorem dX5_shortfall_80 : decode cX5_shortfall 80 = .ok (.lstore 5, 2) := by decide +kernel
theorem dX5_shortfall_82 : decode cX5_shortfall 82 = .ok (.lload 5, 2) := by decide +kernel
theorem dX5_shortfall_84 : decode cX5_shortfall 84 = .ok (.lconst 0, 1) := by decide +kernel
theorem dX5_shortfall_85 : decode cX5_shortfall 85 = .ok (.lcmp, 1) := by decide +kernel
theorem dX5_shortfall_86 : decode cX5_shortfall 86 = .ok (.ifCond .le 8, 3) := by decide +kernel
theorem dX5_shortfall_89 : decode cX5_shortfall 89 = .ok (.lload 5, 2) := by decide +kernel
theorem dX5_shortfall_91 : decode cX5_shortfall 91 = .ok (.goto 4, 3) := by decide +kernel
theorem dX5_shortfall_94 : decode cX5_shortfall 94 = .ok (.lconst 0, 1) := by decide +kernel
theorem dX5_shortfall_95 : decode cX5_shortfall 95 = .ok (.lreturn, 1) := by decide +kernel
set_option maxRecDepth 20000 in
theorem ggX5_unitsOf_X5_owedIn : GoodIn wsX5_unitsOf wsX5_owedIn := goodIn_r _ [7, 8, 9, 10, 11, 12, 13, 14, 6, 15, 16, 17, 18, 19, 20, 21, 22, 23, 24, 25, 26, 27, 28, 29, 30, 31, 32, 33, 34, 35, 36, 37, 38, 39, 40, 41, 42, 43, 44, 45, 46, 47, 48, 49, 50, 51, 52, 53, 54, 55, 56, 57, 58, 59, 60, 61, 62] (by decide +kernel) (by decide +kernel)
set_option maxRecDepth 20000 in
theorem gX5_unitsOf_X5_owedIn : GoodIn wsX5_unitsOf (wsV RX5 144 RX5 yX5_owedIn wsX5_owedIn) := goodIn_app (goodIn_of _ (by decide +kernel)) ggX5_unitsOf_X5_owedIn
theorem dX5_unitsOf_0 : decode cX5_unitsOf 0 = .ok (.aload_n 0, 1) := by decide +kernel
theorem dX5_unitsOf_1 : decode cX5_unitsOf 1 = .ok (.iconst 4, 1) := by decide +kernel
theorem dX5_unitsOf_2 : decode cX5_unitsOf 2 = .ok (.iload_n 1, 1) := by decide +kernel
theorem dX5_unitsOf_3 : decode cX5_unitsOf 3 = .ok (.imul, 1) := by decide +kernel
theorem dX5_unitsOf_4 : decode cX5_unitsOf 4 = .ok (.iload_n 2, 1) := by decide +kernel
theorem dX5_unitsOf_5 : decode cX5_unitsOf 5 = .ok (.iadd, 1) := by decide +kernel
theorem dX5_unitsOf_6 : decode cX5_unitsOf 6 = .ok (.iload_n 3, 1) := by decide +kernel
theorem dX5_unitsOf_7 : decode cX5_unitsOf 7 = .ok (.iload_n 3, 1) := by decide +kernel
theorem dX5_unitsOf_8 : decode cX5_unitsOf 8 = .ok (.invokevirtual 144, 3) := by decide +kernel
theorem dX5_unitsOf_11 : decode cX5_unitsOf 11 = .ok (.aload_n 0, 1) := by decide +kernel
theorem dX5_unitsOf_12 : decode cX5_unitsOf 12 = .ok (.getfield 19, 3) := by decide +kernel
theorem dX5_unitsOf_15 : decode cX5_unitsOf 15 = .ok (.iload_n 1, 1) := by decide +kernel
theorem dX5_unitsOf_16 : decode cX5_unitsOf 16 = .ok (.iaload, 1) := by decide +kernel
theorem dX5_unitsOf_17 : decode cX5_unitsOf 17 = .ok (.i2l, 1) := by decide +kernel
theorem dX5_unitsOf_18 : decode cX5_unitsOf 18 = .ok (.lmul, 1) := by decide +kernel
theorem dX5_unitsOf_19 : decode cX5_unitsOf 19 = .ok (.ldc2_w 148, 3) := by decide +kernel
theorem dX5_unitsOf_22 : decode cX5_unitsOf 22 = .ok (.ldiv, 1) := by decide +kernel
theorem dX5_unitsOf_23 : decode cX5_unitsOf 23 = .ok (.lreturn, 1) := by decide +kernel
set_option maxRecDepth 20000 in
theorem ggX5_net_X5_isOperator : GoodIn wsX5_net wsX5_isOperator := goodIn_r _ [6, 7, 8, 5, 9] (by decide +kernel) (by decide +kernel)
set_option maxRecDepth 20000 in
theorem gX5_net_X5_isOperator : GoodIn wsX5_net (va_wsS RX5 82 yX5_isOperator wsX5_isOperator) := goodIn_app (goodIn_of _ (by decide +kernel)) ggX5_net_X5_isOperator
set_option maxRecDepth 20000 in
theorem ggX5_net_X5_in : GoodIn wsX5_net wsX5_in := goodIn_r _ [9] (by decide +kernel) (by decide +kernel)
set_option maxRecDepth 20000 in
theorem gX5_net_X5_in : GoodIn wsX5_net (va_wsS RX5 78 yX5_in wsX5_in) := goodIn_app (goodIn_of _ (by decide +kernel)) ggX5_net_X5_in
set_option maxRecDepth 20000 in
theorem ggX5_net_X5_unitsOf : GoodIn wsX5_net wsX5_unitsOf := goodIn_r _ [13, 14, 15, 16, 17, 18, 5, 19, 20, 21, 22, 23, 24, 7, 8, 9, 25, 26, 27, 28, 29, 30, 31, 32, 33, 34, 35, 36, 37, 38, 39, 40, 41, 42, 43, 44, 45, 46, 47, 48, 49, 50, 51, 52, 53, 54, 55, 56, 57, 58, 59, 60, 61, 62, 63, 64, 65, 66, 67, 68, 69, 70, 71] (by decide +kernel) (by decide +kernel)
set_option maxRecDepth 20000 in
theorem gX5_net_X5_unitsOf : GoodIn wsX5_net (wsV RX5 150 RX5 yX5_unitsOf wsX5_unitsOf) := goodIn_app (goodIn_of _ (by decide +kernel)) ggX5_net_X5_unitsOf
theorem dX5_net_0 : decode cX5_net 0 = .ok (.aload_n 0, 1) := by decide +kernel
theorem dX5_net_1 : decode cX5_net 1 = .ok (.iload_n 1, 1) := by decide +kernel
theorem dX5_net_2 : decode cX5_net 2 = .ok (.invokestatic 82, 3) := by decide +kernel
theorem dX5_net_5 : decode cX5_net 5 = .ok (.ifCond .ne 7, 3) := by decide +kernel
theorem dX5_net_8 : decode cX5_net 8 = .ok (.iconst 1, 1) := by decide +kernel
theorem dX5_net_9 : decode cX5_net 9 = .ok (.goto 20, 3) := by decide +kernel
theorem dX5_net_12 : decode cX5_net 12 = .ok (.iload_n 2, 1) := by decide +kernel
theorem dX5_net_13 : decode cX5_net 13 = .ok (.iconst 0, 1) := by decide +kernel
theorem dX5_net_14 : decode cX5_net 14 = .ok (.aload_n 0, 1) := by decide +kernel
theorem dX5_net_15 : decode cX5_net 15 = .ok (.getfield 101, 3) := by decide +kernel
theorem dX5_net_18 : decode cX5_net 18 = .ok (.invokestatic 78, 3) := by decide +kernel
theorem dX5_net_21 : decode cX5_net 21 = .ok (.ifCond .ne 7, 3) := by decide +kernel
theorem dX5_net_24 : decode cX5_net 24 = .ok (.iconst 2, 1) := by decide +kernel
theorem dX5_net_25 : decode cX5_net 25 = .ok (.goto 4, 3) := by decide +kernel
theorem dX5_net_28 : decode cX5_net 28 = .ok (.iconst 0, 1) := by decide +kernel
theorem dX5_net_29 : decode cX5_net 29 = .ok (.putfield 74, 3) := by decide +kernel
theorem dX5_net_32 : decode cX5_net 32 = .ok (.lconst 0, 1) := by decide +kernel
theorem dX5_net_33 : decode cX5_net 33 = .ok (.lstore_n 3, 1) := by decide +kernel
theorem dX5_net_34 : decode cX5_net 34 = .ok (.iconst 0, 1) := by decide +kernel
theorem dX5_net_35 : decode cX5_net 35 = .ok (.istore 5, 2) := by decide +kernel
theorem dX5_net_37 : decode cX5_net 37 = .ok (.iload 5, 2) := by decide +kernel
theorem dX5_net_39 : decode cX5_net 39 = .ok (.iconst 4, 1) := by decide +kernel
theorem dX5_net_40 : decode cX5_net 40 = .ok (.if_icmp .ge 46, 3) := by decide +kernel
theorem dX5_net_43 : decode cX5_net 43 = .ok (.aload_n 0, 1) := by decide +kernel
theorem dX5_net_44 : decode cX5_net 44 = .ok (.getfield 74, 3) := by decide +kernel
theorem dX5_net_47 : decode cX5_net 47 = .ok (.ifCond .ne 39, 3) := by decide +kernel
theorem dX5_net_50 : decode cX5_net 50 = .ok (.lload_n 3, 1) := by decide +kernel
theorem dX5_net_51 : decode cX5_net 51 = .ok (.iload 5, 2) := by decide +kernel
theorem dX5_net_53 : decode cX5_net 53 = .ok (.iload_n 1, 1) := by decide +kernel
theorem dX5_net_54 : decode cX5_net 54 = .ok (.if_icmp .ne 7, 3) := by decide +kernel
theorem dX5_net_57 : decode cX5_net 57 = .ok (.lconst 0, 1) := by decide +kernel
theorem dX5_net_58 : decode cX5_net 58 = .ok (.goto 20, 3) := by decide +kernel
theorem dX5_net_61 : decode cX5_net 61 = .ok (.aload_n 0, 1) := by decide +kernel
theorem dX5_net_62 : decode cX5_net 62 = .ok (.iload_n 1, 1) := by decide +kernel
theorem dX5_net_63 : decode cX5_net 63 = .ok (.iload 5, 2) := by decide +kernel
theorem dX5_net_65 : decode cX5_net 65 = .ok (.iload_n 2, 1) := by decide +kernel
theorem dX5_net_66 : decode cX5_net 66 = .ok (.invokevirtual 150, 3) := by decide +kernel
theorem dX5_net_69 : decode cX5_net 69 = .ok (.aload_n 0, 1) := by decide +kernel
theorem dX5_net_70 : decode cX5_net 70 = .ok (.iload 5, 2) := by decide +kernel
theorem dX5_net_72 : decode cX5_net 72 = .ok (.iload_n 1, 1) := by decide +kernel
theorem dX5_net_73 : decode cX5_net 73 = .ok (.iload_n 2, 1) := by decide +kernel
theorem dX5_net_74 : decode cX5_net 74 = .ok (.invokevirtual 150, 3) := by decide +kernel
theorem dX5_net_77 : decode cX5_net 77 = .ok (.lsub, 1) := by decide +kernel
theorem dX5_net_78 : decode cX5_net 78 = .ok (.ladd, 1) := by decide +kernel
theorem dX5_net_79 : decode cX5_net 79 = .ok (.lstore_n 3, 1) := by decide +kernel
theorem dX5_net_80 : decode cX5_net 80 = .ok (.iinc 5 1, 3) := by decide +kernel
theorem dX5_net_83 : decode cX5_net 83 = .ok (.goto (-46), 3) := by decide +kernel
theorem dX5_net_86 : decode cX5_net 86 = .ok (.lload_n 3, 1) := by decide +kernel
theorem dX5_net_87 : decode cX5_net 87 = .ok (.lreturn, 1) := by decide +kernel
theorem dJ9_max_7cf53_0 : decode cJ9_max_7cf53 0 = .ok (.iload_n 0, 1) := by decide +kernel
theorem dJ9_max_7cf53_1 : decode cJ9_max_7cf53 1 = .ok (.iload_n 1, 1) := by decide +kernel
theorem dJ9_max_7cf53_2 : decode cJ9_max_7cf53 2 = .ok (.if_icmp .lt 7, 3) := by decide +kernel
theorem dJ9_max_7cf53_5 : decode cJ9_max_7cf53 5 = .ok (.iload_n 0, 1) := by decide +kernel
theorem dJ9_max_7cf53_6 : decode cJ9_max_7cf53 6 = .ok (.goto 4, 3) := by decide +kernel
theorem dJ9_max_7cf53_9 : decode cJ9_max_7cf53 9 = .ok (.iload_n 1, 1) := by decide +kernel
theorem dJ9_max_7cf53_10 : decode cJ9_max_7cf53 10 = .ok (.ireturn, 1) := by decide +kernel
theorem dJ9_max_f86c9_0 : decode cJ9_max_f86c9 0 = .ok (.lload_n 0, 1) := by decide +kernel
theorem dJ9_max_f86c9_1 : decode cJ9_max_f86c9 1 = .ok (.lload_n 2, 1) := by decide +kernel
theorem dJ9_max_f86c9_2 : decode cJ9_max_f86c9 2 = .ok (.lcmp, 1) := by decide +kernel
theorem dJ9_max_f86c9_3 : decode cJ9_max_f86c9 3 = .ok (.ifCond .lt 7, 3) := by decide +kernel
theorem dJ9_max_f86c9_6 : decode cJ9_max_f86c9 6 = .ok (.lload_n 0, 1) := by decide +kernel
theorem dJ9_max_f86c9_7 : decode cJ9_max_f86c9 7 = .ok (.goto 4, 3) := by decide +kernel
theorem dJ9_max_f86c9_10 : decode cJ9_max_f86c9 10 = .ok (.lload_n 2, 1) := by decide +kernel
theorem dJ9_max_f86c9_11 : decode cJ9_max_f86c9 11 = .ok (.lreturn, 1) := by decide +kernel
set_option maxRecDepth 20000 in
theorem ggL_setTariff_X4_setTariff : GoodIn wsL_setTariff wsX4_setTariff := goodIn_ca (goodIn_ca (goodIn_r _ [7, 8, 9, 10, 11, 12, 13, 6, 14, 15, 16, 17, 18, 19, 20, 21, 22, 23, 24, 25, 26, 27, 28, 29, 30, 31, 32, 33, 34, 35, 36] (by decide +kernel) (by decide +kernel)) (goodIn_sub (fun _ h => List.mem_cons_of_mem _ (List.mem_append_left _ (List.mem_append_right _ h))) (by decide +kernel))) (goodIn_sub (fun _ h => List.mem_cons_of_mem _ (List.mem_append_right _ h)) (by decide +kernel))
set_option maxRecDepth 20000 in
theorem gL_setTariff_X4_setTariff : GoodIn wsL_setTariff (wsV RL 7 RX4 yX4_setTariff wsX4_setTariff) := goodIn_app (goodIn_of _ (by decide +kernel)) ggL_setTariff_X4_setTariff
theorem dL_setTariff_0 : decode cL_setTariff 0 = .ok (.aload 5, 2) := by decide +kernel
theorem dL_setTariff_2 : decode cL_setTariff 2 = .ok (.iconst 0, 1) := by decide +kernel
theorem dL_setTariff_3 : decode cL_setTariff 3 = .ok (.aload_n 0, 1) := by decide +kernel
theorem dL_setTariff_4 : decode cL_setTariff 4 = .ok (.iload_n 1, 1) := by decide +kernel
theorem dL_setTariff_5 : decode cL_setTariff 5 = .ok (.iload_n 2, 1) := by decide +kernel
theorem dL_setTariff_6 : decode cL_setTariff 6 = .ok (.iload_n 3, 1) := by decide +kernel
theorem dL_setTariff_7 : decode cL_setTariff 7 = .ok (.iload 4, 2) := by decide +kernel
theorem dL_setTariff_9 : decode cL_setTariff 9 = .ok (.invokevirtual 7, 3) := by decide +kernel
theorem dL_setTariff_12 : decode cL_setTariff 12 = .ok (.i2l, 1) := by decide +kernel
theorem dL_setTariff_13 : decode cL_setTariff 13 = .ok (.lastore, 1) := by decide +kernel
theorem dL_setTariff_14 : decode cL_setTariff 14 = .ok (.goto 11, 3) := by decide +kernel
theorem dL_setTariff_17 : decode cL_setTariff 17 = .ok (.astore 6, 2) := by decide +kernel
theorem dL_setTariff_19 : decode cL_setTariff 19 = .ok (.iconst 1, 1) := by decide +kernel
theorem dL_setTariff_20 : decode cL_setTariff 20 = .ok (.ireturn, 1) := by decide +kernel
theorem dL_setTariff_21 : decode cL_setTariff 21 = .ok (.astore 6, 2) := by decide +kernel
theorem dL_setTariff_23 : decode cL_setTariff 23 = .ok (.iconst 2, 1) := by decide +kernel
theorem dL_setTariff_24 : decode cL_setTariff 24 = .ok (.ireturn, 1) := by decide +kernel
theorem dL_setTariff_25 : decode cL_setTariff 25 = .ok (.iconst 0, 1) := by decide +kernel
theorem dL_setTariff_26 : decode cL_setTariff 26 = .ok (.ireturn, 1) := by decide +kernel
set_option maxRecDepth 20000 in
theorem ggL_charge_X4_charge : GoodIn wsL_charge wsX4_charge := goodIn_ca (goodIn_ca (goodIn_r _ [7, 8, 9, 10, 11, 6, 12, 13, 14, 15, 16, 17, 18, 19, 20, 21, 22, 23, 24, 25, 26, 27, 28, 29, 30, 31, 32, 33, 34, 35, 36, 37, 38, 39, 40, 41, 42] (by decide +kernel) (by decide +kernel)) (goodIn_sub (fun _ h => List.mem_cons_of_mem _ (List.mem_append_left _ (List.mem_append_right _ h))) (by decide +kernel))) (goodIn_sub (fun _ h => List.mem_cons_of_mem _ (List.mem_append_right _ h)) (by decide +kernel))
set_option maxRecDepth 20000 in
theorem gL_charge_X4_charge : GoodIn wsL_charge (wsV RL 17 RX4 yX4_charge wsX4_charge) := goodIn_app (goodIn_of _ (by decide +kernel)) ggL_charge_X4_charge
theorem dL_charge_0 : decode cL_charge 0 = .ok (.aload_n 3, 1) := by decide +kernel
theorem dL_charge_1 : decode cL_charge 1 = .ok (.iconst 0, 1) := by decide +kernel
theorem dL_charge_2 : decode cL_charge 2 = .ok (.aload_n 0, 1) := by decide +kernel
theorem dL_charge_3 : decode cL_charge 3 = .ok (.iload_n 1, 1) := by decide +kernel
theorem dL_charge_4 : decode cL_charge 4 = .ok (.iload_n 2, 1) := by decide +kernel
theorem dL_charge_5 : decode cL_charge 5 = .ok (.invokevirtual 17, 3) := by decide +kernel
theorem dL_charge_8 : decode cL_charge 8 = .ok (.i2l, 1) := by decide +kernel
theorem dL_charge_9 : decode cL_charge 9 = .ok (.lastore, 1) := by decide +kernel
theorem dL_charge_10 : decode cL_charge 10 = .ok (.goto 11, 3) := by decide +kernel
theorem dL_charge_13 : decode cL_charge 13 = .ok (.astore 4, 2) := by decide +kernel
theorem dL_charge_15 : decode cL_charge 15 = .ok (.iconst 1, 1) := by decide +kernel
theorem dL_charge_16 : decode cL_charge 16 = .ok (.ireturn, 1) := by decide +kernel
theorem dL_charge_17 : decode cL_charge 17 = .ok (.astore 4, 2) := by decide +kernel
theorem dL_charge_19 : decode cL_charge 19 = .ok (.iconst 2, 1) := by decide +kernel
theorem dL_charge_20 : decode cL_charge 20 = .ok (.ireturn, 1) := by decide +kernel
theorem dL_charge_21 : decode cL_charge 21 = .ok (.iconst 0, 1) := by decide +kernel
theorem dL_charge_22 : decode cL_charge 22 = .ok (.ireturn, 1) := by decide +kernel
set_option maxRecDepth 20000 in
theorem ggL_begin_X4_begin : GoodIn wsL_begin wsX4_begin := goodIn_ca (goodIn_ca (goodIn_ca (goodIn_r _ [8, 9, 10, 11, 12, 13, 14, 15, 16, 17, 18, 19, 7, 20, 21, 22, 23, 24, 25, 26, 27, 28, 29, 30, 31, 32, 33, 34, 35, 36, 37, 38, 39, 40, 41, 42, 43, 44, 45, 46, 47, 48, 49, 50, 51] (by decide +kernel) (by decide +kernel)) (goodIn_sub (fun _ h => List.mem_cons_of_mem _ (List.mem_append_left _ (List.mem_append_left _ (List.mem_append_right _ h)))) (by decide +kernel))) (goodIn_sub (fun _ h => List.mem_cons_of_mem _ (List.mem_append_left _ (List.mem_append_right _ h))) (by decide +kernel))) (goodIn_sub (fun _ h => List.mem_cons_of_mem _ (List.mem_append_right _ h)) (by decide +kernel))
set_option maxRecDepth 20000 in
theorem gL_begin_X4_begin : GoodIn wsL_begin (wsV RL 21 RX4 yX4_begin wsX4_begin) := goodIn_app (goodIn_of _ (by decide +kernel)) ggL_begin_X4_begin
theorem dL_begin_0 : decode cL_begin 0 = .ok (.aload_n 3, 1) := by decide +kernel
theorem dL_begin_1 : decode cL_begin 1 = .ok (.iconst 0, 1) := by decide +kernel
theorem dL_begin_2 : decode cL_begin 2 = .ok (.aload_n 0, 1) := by decide +kernel
theorem dL_begin_3 : decode cL_begin 3 = .ok (.iload_n 1, 1) := by decide +kernel
theorem dL_begin_4 : decode cL_begin 4 = .ok (.iload_n 2, 1) := by decide +kernel
theorem dL_begin_5 : decode cL_begin 5 = .ok (.invokevirtual 21, 3) := by decide +kernel
theorem dL_begin_8 : decode cL_begin 8 = .ok (.i2l, 1) := by decide +kernel
theorem dL_begin_9 : decode cL_begin 9 = .ok (.lastore, 1) := by decide +kernel
theorem dL_begin_10 : decode cL_begin 10 = .ok (.goto 15, 3) := by decide +kernel
theorem dL_begin_13 : decode cL_begin 13 = .ok (.astore 4, 2) := by decide +kernel
theorem dL_begin_15 : decode cL_begin 15 = .ok (.iconst 1, 1) := by decide +kernel
theorem dL_begin_16 : decode cL_begin 16 = .ok (.ireturn, 1) := by decide +kernel
theorem dL_begin_17 : decode cL_begin 17 = .ok (.astore 4, 2) := by decide +kernel
theorem dL_begin_19 : decode cL_begin 19 = .ok (.iconst 2, 1) := by decide +kernel
theorem dL_begin_20 : decode cL_begin 20 = .ok (.ireturn, 1) := by decide +kernel
theorem dL_begin_21 : decode cL_begin 21 = .ok (.astore 4, 2) := by decide +kernel
theorem dL_begin_23 : decode cL_begin 23 = .ok (.iconst 3, 1) := by decide +kernel
theorem dL_begin_24 : decode cL_begin 24 = .ok (.ireturn, 1) := by decide +kernel
theorem dL_begin_25 : decode cL_begin 25 = .ok (.iconst 0, 1) := by decide +kernel
theorem dL_begin_26 : decode cL_begin 26 = .ok (.ireturn, 1) := by decide +kernel
set_option maxRecDepth 20000 in
theorem ggL_enter_X4_enter : GoodIn wsL_enter wsX4_enter := goodIn_ca (goodIn_ca (goodIn_ca (goodIn_r _ [8, 9, 10, 11, 12, 13, 14, 15, 16, 17, 18, 19, 20, 21, 22, 7, 23, 24, 25, 26, 27, 28, 29, 30, 31, 32, 33, 34, 35, 36, 37, 38, 39, 40, 41, 42, 43, 44, 45, 46, 47, 48, 49, 50, 51, 52, 53, 54, 55, 56, 57, 58, 59, 60, 61, 62, 63, 64] (by decide +kernel) (by decide +kernel)) (goodIn_sub (fun _ h => List.mem_cons_of_mem _ (List.mem_append_left _ (List.mem_append_left _ (List.mem_append_right _ h)))) (by decide +kernel))) (goodIn_sub (fun _ h => List.mem_cons_of_mem _ (List.mem_append_left _ (List.mem_append_right _ h))) (by decide +kernel))) (goodIn_sub (fun _ h => List.mem_cons_of_mem _ (List.mem_append_right _ h)) (by decide +kernel))
set_option maxRecDepth 20000 in
theorem gL_enter_X4_enter : GoodIn wsL_enter (wsV RL 26 RX4 yX4_enter wsX4_enter) := goodIn_app (goodIn_of _ (by decide +kernel)) ggL_enter_X4_enter
theorem dL_enter_0 : decode cL_enter 0 = .ok (.aload 4, 2) := by decide +kernel
theorem dL_enter_2 : decode cL_enter 2 = .ok (.iconst 0, 1) := by decide +kernel
theorem dL_enter_3 : decode cL_enter 3 = .ok (.aload_n 0, 1) := by decide +kernel
theorem dL_enter_4 : decode cL_enter 4 = .ok (.iload_n 1, 1) := by decide +kernel
theorem dL_enter_5 : decode cL_enter 5 = .ok (.iload_n 2, 1) := by decide +kernel
theorem dL_enter_6 : decode cL_enter 6 = .ok (.iload_n 3, 1) := by decide +kernel
theorem dL_enter_7 : decode cL_enter 7 = .ok (.invokevirtual 26, 3) := by decide +kernel
theorem dL_enter_10 : decode cL_enter 10 = .ok (.i2l, 1) := by decide +kernel
theorem dL_enter_11 : decode cL_enter 11 = .ok (.lastore, 1) := by decide +kernel
theorem dL_enter_12 : decode cL_enter 12 = .ok (.goto 15, 3) := by decide +kernel
theorem dL_enter_15 : decode cL_enter 15 = .ok (.astore 5, 2) := by decide +kernel
theorem dL_enter_17 : decode cL_enter 17 = .ok (.iconst 1, 1) := by decide +kernel
theorem dL_enter_18 : decode cL_enter 18 = .ok (.ireturn, 1) := by decide +kernel
theorem dL_enter_19 : decode cL_enter 19 = .ok (.astore 5, 2) := by decide +kernel
theorem dL_enter_21 : decode cL_enter 21 = .ok (.iconst 2, 1) := by decide +kernel
theorem dL_enter_22 : decode cL_enter 22 = .ok (.ireturn, 1) := by decide +kernel
theorem dL_enter_23 : decode cL_enter 23 = .ok (.astore 5, 2) := by decide +kernel
theorem dL_enter_25 : decode cL_enter 25 = .ok (.iconst 3, 1) := by decide +kernel
theorem dL_enter_26 : decode cL_enter 26 = .ok (.ireturn, 1) := by decide +kernel
theorem dL_enter_27 : decode cL_enter 27 = .ok (.iconst 0, 1) := by decide +kernel
theorem dL_enter_28 : decode cL_enter 28 = .ok (.ireturn, 1) := by decide +kernel
set_option maxRecDepth 20000 in
theorem ggL_send_X4_send : GoodIn wsL_send wsX4_send := goodIn_ca (goodIn_ca (goodIn_ca (goodIn_r _ [8, 9, 10, 11, 12, 13, 14, 15, 16, 17, 18, 7, 19, 20, 21, 22, 23, 24, 25, 26, 27, 28, 29, 30, 31, 32, 33, 34, 35, 36, 37, 38, 39, 40, 41, 42, 43, 44, 45, 46, 47, 48, 49, 50, 51, 52, 53, 54, 55, 56, 57, 58, 59, 60, 61, 62, 63, 64, 65, 66, 67, 68, 69, 70, 71, 72, 73, 74, 75, 76, 77, 78, 79, 80, 81, 82, 83, 84, 85, 86, 87, 88, 89, 90, 91, 92, 93, 94, 95, 96, 97, 98, 99, 100, 101, 102, 103, 104, 105, 106, 107, 108, 109, 110, 111] (by decide +kernel) (by decide +kernel)) (goodIn_sub (fun _ h => List.mem_cons_of_mem _ (List.mem_append_left _ (List.mem_append_left _ (List.mem_append_right _ h)))) (by decide +kernel))) (goodIn_sub (fun _ h => List.mem_cons_of_mem _ (List.mem_append_left _ (List.mem_append_right _ h))) (by decide +kernel))) (goodIn_sub (fun _ h => List.mem_cons_of_mem _ (List.mem_append_right _ h)) (by decide +kernel))
set_option maxRecDepth 20000 in
theorem gL_send_X4_send : GoodIn wsL_send (wsV RL 30 RX4 yX4_send wsX4_send) := goodIn_app (goodIn_of _ (by decide +kernel)) ggL_send_X4_send
theorem dL_send_0 : decode cL_send 0 = .ok (.aload_n 3, 1) := by decide +kernel
theorem dL_send_1 : decode cL_send 1 = .ok (.iconst 0, 1) := by decide +kernel
theorem dL_send_2 : decode cL_send 2 = .ok (.aload_n 0, 1) := by decide +kernel
theorem dL_send_3 : decode cL_send 3 = .ok (.iload_n 1, 1) := by decide +kernel
theorem dL_send_4 : decode cL_send 4 = .ok (.iload_n 2, 1) := by decide +kernel
theorem dL_send_5 : decode cL_send 5 = .ok (.invokevirtual 30, 3) := by decide +kernel
theorem dL_send_8 : decode cL_send 8 = .ok (.i2l, 1) := by decide +kernel
theorem dL_send_9 : decode cL_send 9 = .ok (.lastore, 1) := by decide +kernel
theorem dL_send_10 : decode cL_send 10 = .ok (.goto 15, 3) := by decide +kernel
theorem dL_send_13 : decode cL_send 13 = .ok (.astore 4, 2) := by decide +kernel
theorem dL_send_15 : decode cL_send 15 = .ok (.iconst 1, 1) := by decide +kernel
theorem dL_send_16 : decode cL_send 16 = .ok (.ireturn, 1) := by decide +kernel
theorem dL_send_17 : decode cL_send 17 = .ok (.astore 4, 2) := by decide +kernel
theorem dL_send_19 : decode cL_send 19 = .ok (.iconst 2, 1) := by decide +kernel
theorem dL_send_20 : decode cL_send 20 = .ok (.ireturn, 1) := by decide +kernel
theorem dL_send_21 : decode cL_send 21 = .ok (.astore 4, 2) := by decide +kernel
theorem dL_send_23 : decode cL_send 23 = .ok (.iconst 3, 1) := by decide +kernel
theorem dL_send_24 : decode cL_send 24 = .ok (.ireturn, 1) := by decide +kernel
theorem dL_send_25 : decode cL_send 25 = .ok (.iconst 0, 1) := by decide +kernel
theorem dL_send_26 : decode cL_send 26 = .ok (.ireturn, 1) := by decide +kernel
set_option maxRecDepth 20000 in
theorem ggL_stateOf_X4_stateOf : GoodIn wsL_stateOf wsX4_stateOf := goodIn_ca (goodIn_r _ [6, 7, 8, 9, 10, 5, 11, 12, 13, 14, 15, 16, 17, 18, 19, 20, 21, 22, 23, 24, 25, 26, 27] (by decide +kernel) (by decide +kernel)) (goodIn_sub (fun _ h => List.mem_cons_of_mem _ (List.mem_append_right _ h)) (by decide +kernel))
set_option maxRecDepth 20000 in
theorem gL_stateOf_X4_stateOf : GoodIn wsL_stateOf (wsV RL 33 RX4 yX4_stateOf wsX4_stateOf) := goodIn_app (goodIn_of _ (by decide +kernel)) ggL_stateOf_X4_stateOf
theorem dL_stateOf_0 : decode cL_stateOf 0 = .ok (.aload_n 2, 1) := by decide +kernel
theorem dL_stateOf_1 : decode cL_stateOf 1 = .ok (.iconst 0, 1) := by decide +kernel
theorem dL_stateOf_2 : decode cL_stateOf 2 = .ok (.aload_n 0, 1) := by decide +kernel
theorem dL_stateOf_3 : decode cL_stateOf 3 = .ok (.iload_n 1, 1) := by decide +kernel
theorem dL_stateOf_4 : decode cL_stateOf 4 = .ok (.invokevirtual 33, 3) := by decide +kernel
theorem dL_stateOf_7 : decode cL_stateOf 7 = .ok (.i2l, 1) := by decide +kernel
theorem dL_stateOf_8 : decode cL_stateOf 8 = .ok (.lastore, 1) := by decide +kernel
theorem dL_stateOf_9 : decode cL_stateOf 9 = .ok (.goto 6, 3) := by decide +kernel
theorem dL_stateOf_12 : decode cL_stateOf 12 = .ok (.astore_n 3, 1) := by decide +kernel
theorem dL_stateOf_13 : decode cL_stateOf 13 = .ok (.iconst 1, 1) := by decide +kernel
theorem dL_stateOf_14 : decode cL_stateOf 14 = .ok (.ireturn, 1) := by decide +kernel
theorem dL_stateOf_15 : decode cL_stateOf 15 = .ok (.iconst 0, 1) := by decide +kernel
theorem dL_stateOf_16 : decode cL_stateOf 16 = .ok (.ireturn, 1) := by decide +kernel
set_option maxRecDepth 20000 in
theorem ggL_expected_X4_expected : GoodIn wsL_expected wsX4_expected := goodIn_ca (goodIn_ca (goodIn_r _ [7, 8, 9, 10, 11, 6, 12, 13, 14, 15, 16, 17, 18, 19, 20, 21, 22, 23, 24, 25, 26, 27, 28, 29, 30, 31, 32, 33, 34] (by decide +kernel) (by decide +kernel)) (goodIn_sub (fun _ h => List.mem_cons_of_mem _ (List.mem_append_left _ (List.mem_append_right _ h))) (by decide +kernel))) (goodIn_sub (fun _ h => List.mem_cons_of_mem _ (List.mem_append_right _ h)) (by decide +kernel))
set_option maxRecDepth 20000 in
theorem gL_expected_X4_expected : GoodIn wsL_expected (wsV RL 37 RX4 yX4_expected wsX4_expected) := goodIn_app (goodIn_of _ (by decide +kernel)) ggL_expected_X4_expected
theorem dL_expected_0 : decode cL_expected 0 = .ok (.aload_n 3, 1) := by decide +kernel
theorem dL_expected_1 : decode cL_expected 1 = .ok (.iconst 0, 1) := by decide +kernel
theorem dL_expected_2 : decode cL_expected 2 = .ok (.aload_n 0, 1) := by decide +kernel
theorem dL_expected_3 : decode cL_expected 3 = .ok (.iload_n 1, 1) := by decide +kernel
theorem dL_expected_4 : decode cL_expected 4 = .ok (.iload_n 2, 1) := by decide +kernel
theorem dL_expected_5 : decode cL_expected 5 = .ok (.invokevirtual 37, 3) := by decide +kernel
theorem dL_expected_8 : decode cL_expected 8 = .ok (.i2l, 1) := by decide +kernel
theorem dL_expected_9 : decode cL_expected 9 = .ok (.lastore, 1) := by decide +kernel
theorem dL_expected_10 : decode cL_expected 10 = .ok (.goto 11, 3) := by decide +kernel
theorem dL_expected_13 : decode cL_expected 13 = .ok (.astore 4, 2) := by decide +kernel
theorem dL_expected_15 : decode cL_expected 15 = .ok (.iconst 1, 1) := by decide +kernel
theorem dL_expected_16 : decode cL_expected 16 = .ok (.ireturn, 1) := by decide +kernel
theorem dL_expected_17 : decode cL_expected 17 = .ok (.astore 4, 2) := by decide +kernel
theorem dL_expected_19 : decode cL_expected 19 = .ok (.iconst 2, 1) := by decide +kernel
theorem dL_expected_20 : decode cL_expected 20 = .ok (.ireturn, 1) := by decide +kernel
theorem dL_expected_21 : decode cL_expected 21 = .ok (.iconst 0, 1) := by decide +kernel
theorem dL_expected_22 : decode cL_expected 22 = .ok (.ireturn, 1) := by decide +kernel
set_option maxRecDepth 20000 in
theorem ggL_lacking_X4_lacking : GoodIn wsL_lacking wsX4_lacking := goodIn_ca (goodIn_ca (goodIn_r _ [7, 8, 9, 10, 11, 12, 13, 14, 15, 16, 17, 18, 19, 20, 6, 21, 22, 23, 24, 25, 26, 27, 28, 29, 30, 31, 32, 33, 34, 35, 36, 37, 38, 39, 40, 41, 42, 43, 44, 45, 46, 47, 48] (by decide +kernel) (by decide +kernel)) (goodIn_sub (fun _ h => List.mem_cons_of_mem _ (List.mem_append_left _ (List.mem_append_right _ h))) (by decide +kernel))) (goodIn_sub (fun _ h => List.mem_cons_of_mem _ (List.mem_append_right _ h)) (by decide +kernel))
set_option maxRecDepth 20000 in
theorem gL_lacking_X4_lacking : GoodIn wsL_lacking (wsV RL 40 RX4 yX4_lacking wsX4_lacking) := goodIn_app (goodIn_of _ (by decide +kernel)) ggL_lacking_X4_lacking
theorem dL_lacking_0 : decode cL_lacking 0 = .ok (.aload_n 3, 1) := by decide +kernel
theorem dL_lacking_1 : decode cL_lacking 1 = .ok (.iconst 0, 1) := by decide +kernel
theorem dL_lacking_2 : decode cL_lacking 2 = .ok (.aload_n 0, 1) := by decide +kernel
theorem dL_lacking_3 : decode cL_lacking 3 = .ok (.iload_n 1, 1) := by decide +kernel
theorem dL_lacking_4 : decode cL_lacking 4 = .ok (.iload_n 2, 1) := by decide +kernel
theorem dL_lacking_5 : decode cL_lacking 5 = .ok (.invokevirtual 40, 3) := by decide +kernel
theorem dL_lacking_8 : decode cL_lacking 8 = .ok (.i2l, 1) := by decide +kernel
theorem dL_lacking_9 : decode cL_lacking 9 = .ok (.lastore, 1) := by decide +kernel
theorem dL_lacking_10 : decode cL_lacking 10 = .ok (.goto 11, 3) := by decide +kernel
theorem dL_lacking_13 : decode cL_lacking 13 = .ok (.astore 4, 2) := by decide +kernel
theorem dL_lacking_15 : decode cL_lacking 15 = .ok (.iconst 1, 1) := by decide +kernel
theorem dL_lacking_16 : decode cL_lacking 16 = .ok (.ireturn, 1) := by decide +kernel
theorem dL_lacking_17 : decode cL_lacking 17 = .ok (.astore 4, 2) := by decide +kernel
theorem dL_lacking_19 : decode cL_lacking 19 = .ok (.iconst 2, 1) := by decide +kernel
theorem dL_lacking_20 : decode cL_lacking 20 = .ok (.ireturn, 1) := by decide +kernel
theorem dL_lacking_21 : decode cL_lacking 21 = .ok (.iconst 0, 1) := by decide +kernel
theorem dL_lacking_22 : decode cL_lacking 22 = .ok (.ireturn, 1) := by decide +kernel
set_option maxRecDepth 20000 in
theorem ggL_call_X4_call : GoodIn wsL_call wsX4_call := goodIn_ca (goodIn_r _ [6, 7, 8, 9, 10, 5, 11, 12, 13, 14, 15, 16, 17, 18, 19, 20, 21, 22, 23, 24, 25, 26, 27, 28, 29] (by decide +kernel) (by decide +kernel)) (goodIn_sub (fun _ h => List.mem_cons_of_mem _ (List.mem_append_right _ h)) (by decide +kernel))
set_option maxRecDepth 20000 in
theorem gL_call_X4_call : GoodIn wsL_call (wsV RL 43 RX4 yX4_call wsX4_call) := goodIn_app (goodIn_of _ (by decide +kernel)) ggL_call_X4_call
theorem dL_call_0 : decode cL_call 0 = .ok (.aload_n 2, 1) := by decide +kernel
theorem dL_call_1 : decode cL_call 1 = .ok (.iconst 0, 1) := by decide +kernel
theorem dL_call_2 : decode cL_call 2 = .ok (.aload_n 0, 1) := by decide +kernel
theorem dL_call_3 : decode cL_call 3 = .ok (.iload_n 1, 1) := by decide +kernel
theorem dL_call_4 : decode cL_call 4 = .ok (.invokevirtual 43, 3) := by decide +kernel
theorem dL_call_7 : decode cL_call 7 = .ok (.i2l, 1) := by decide +kernel
theorem dL_call_8 : decode cL_call 8 = .ok (.lastore, 1) := by decide +kernel
theorem dL_call_9 : decode cL_call 9 = .ok (.goto 6, 3) := by decide +kernel
theorem dL_call_12 : decode cL_call 12 = .ok (.astore_n 3, 1) := by decide +kernel
theorem dL_call_13 : decode cL_call 13 = .ok (.iconst 1, 1) := by decide +kernel
theorem dL_call_14 : decode cL_call 14 = .ok (.ireturn, 1) := by decide +kernel
theorem dL_call_15 : decode cL_call 15 = .ok (.iconst 0, 1) := by decide +kernel
theorem dL_call_16 : decode cL_call 16 = .ok (.ireturn, 1) := by decide +kernel
set_option maxRecDepth 20000 in
theorem ggL_monthOf_X4_monthOf : GoodIn wsL_monthOf wsX4_monthOf := goodIn_ca (goodIn_r _ [6, 7, 8, 9, 10, 5, 11, 12, 13, 14, 15, 16, 17, 18, 19, 20, 21, 22, 23, 24, 25, 26, 27, 28, 29] (by decide +kernel) (by decide +kernel)) (goodIn_sub (fun _ h => List.mem_cons_of_mem _ (List.mem_append_right _ h)) (by decide +kernel))
set_option maxRecDepth 20000 in
theorem gL_monthOf_X4_monthOf : GoodIn wsL_monthOf (wsV RL 46 RX4 yX4_monthOf wsX4_monthOf) := goodIn_app (goodIn_of _ (by decide +kernel)) ggL_monthOf_X4_monthOf
theorem dL_monthOf_0 : decode cL_monthOf 0 = .ok (.aload_n 2, 1) := by decide +kernel
theorem dL_monthOf_1 : decode cL_monthOf 1 = .ok (.iconst 0, 1) := by decide +kernel
theorem dL_monthOf_2 : decode cL_monthOf 2 = .ok (.aload_n 0, 1) := by decide +kernel
theorem dL_monthOf_3 : decode cL_monthOf 3 = .ok (.iload_n 1, 1) := by decide +kernel
theorem dL_monthOf_4 : decode cL_monthOf 4 = .ok (.invokevirtual 46, 3) := by decide +kernel
theorem dL_monthOf_7 : decode cL_monthOf 7 = .ok (.i2l, 1) := by decide +kernel
theorem dL_monthOf_8 : decode cL_monthOf 8 = .ok (.lastore, 1) := by decide +kernel
theorem dL_monthOf_9 : decode cL_monthOf 9 = .ok (.goto 6, 3) := by decide +kernel
theorem dL_monthOf_12 : decode cL_monthOf 12 = .ok (.astore_n 3, 1) := by decide +kernel
theorem dL_monthOf_13 : decode cL_monthOf 13 = .ok (.iconst 1, 1) := by decide +kernel
theorem dL_monthOf_14 : decode cL_monthOf 14 = .ok (.ireturn, 1) := by decide +kernel
theorem dL_monthOf_15 : decode cL_monthOf 15 = .ok (.iconst 0, 1) := by decide +kernel
theorem dL_monthOf_16 : decode cL_monthOf 16 = .ok (.ireturn, 1) := by decide +kernel
set_option maxRecDepth 20000 in
theorem ggL_owedFor_X4_owedFor : GoodIn wsL_owedFor wsX4_owedFor := goodIn_ca (goodIn_r _ [6, 7, 8, 9, 5, 10, 11, 12, 13, 14, 15, 16, 17, 18, 19, 20, 21, 22, 23, 24, 25, 26, 27, 28, 29, 30, 31, 32, 33, 34, 35, 36, 37, 38, 39, 40, 41, 42, 43, 44, 45, 46, 47, 48, 49, 50, 51, 52, 53, 54, 55, 56, 57, 58, 59, 60, 61, 62, 63] (by decide +kernel) (by decide +kernel)) (goodIn_sub (fun _ h => List.mem_cons_of_mem _ (List.mem_append_right _ h)) (by decide +kernel))
set_option maxRecDepth 20000 in
theorem gL_owedFor_X4_owedFor : GoodIn wsL_owedFor (wsV RL 49 RX4 yX4_owedFor wsX4_owedFor) := goodIn_app (goodIn_of _ (by decide +kernel)) ggL_owedFor_X4_owedFor
theorem dL_owedFor_0 : decode cL_owedFor 0 = .ok (.aload_n 2, 1) := by decide +kernel
theorem dL_owedFor_1 : decode cL_owedFor 1 = .ok (.iconst 0, 1) := by decide +kernel
theorem dL_owedFor_2 : decode cL_owedFor 2 = .ok (.aload_n 0, 1) := by decide +kernel
theorem dL_owedFor_3 : decode cL_owedFor 3 = .ok (.iload_n 1, 1) := by decide +kernel
theorem dL_owedFor_4 : decode cL_owedFor 4 = .ok (.invokevirtual 49, 3) := by decide +kernel
theorem dL_owedFor_7 : decode cL_owedFor 7 = .ok (.i2l, 1) := by decide +kernel
theorem dL_owedFor_8 : decode cL_owedFor 8 = .ok (.lastore, 1) := by decide +kernel
theorem dL_owedFor_9 : decode cL_owedFor 9 = .ok (.goto 6, 3) := by decide +kernel
theorem dL_owedFor_12 : decode cL_owedFor 12 = .ok (.astore_n 3, 1) := by decide +kernel
theorem dL_owedFor_13 : decode cL_owedFor 13 = .ok (.iconst 1, 1) := by decide +kernel
theorem dL_owedFor_14 : decode cL_owedFor 14 = .ok (.ireturn, 1) := by decide +kernel
theorem dL_owedFor_15 : decode cL_owedFor 15 = .ok (.iconst 0, 1) := by decide +kernel
theorem dL_owedFor_16 : decode cL_owedFor 16 = .ok (.ireturn, 1) := by decide +kernel
set_option maxRecDepth 20000 in
theorem ggL_dispute_X4_dispute : GoodIn wsL_dispute wsX4_dispute := goodIn_ca (goodIn_ca (goodIn_r _ [7, 8, 9, 10, 11, 12, 13, 14, 15, 16, 6, 17, 18, 19, 20, 21, 22, 23, 24, 25, 26, 27, 28, 29, 30, 31, 32, 33, 34, 35] (by decide +kernel) (by decide +kernel)) (goodIn_sub (fun _ h => List.mem_cons_of_mem _ (List.mem_append_left _ (List.mem_append_right _ h))) (by decide +kernel))) (goodIn_sub (fun _ h => List.mem_cons_of_mem _ (List.mem_append_right _ h)) (by decide +kernel))
set_option maxRecDepth 20000 in
theorem gL_dispute_X4_dispute : GoodIn wsL_dispute (wsV RL 52 RX4 yX4_dispute wsX4_dispute) := goodIn_app (goodIn_of _ (by decide +kernel)) ggL_dispute_X4_dispute
theorem dL_dispute_0 : decode cL_dispute 0 = .ok (.aload_n 0, 1) := by decide +kernel
theorem dL_dispute_1 : decode cL_dispute 1 = .ok (.iload_n 1, 1) := by decide +kernel
theorem dL_dispute_2 : decode cL_dispute 2 = .ok (.invokevirtual 52, 3) := by decide +kernel
theorem dL_dispute_5 : decode cL_dispute 5 = .ok (.goto 9, 3) := by decide +kernel
theorem dL_dispute_8 : decode cL_dispute 8 = .ok (.astore_n 2, 1) := by decide +kernel
theorem dL_dispute_9 : decode cL_dispute 9 = .ok (.iconst 1, 1) := by decide +kernel
theorem dL_dispute_10 : decode cL_dispute 10 = .ok (.ireturn, 1) := by decide +kernel
theorem dL_dispute_11 : decode cL_dispute 11 = .ok (.astore_n 2, 1) := by decide +kernel
theorem dL_dispute_12 : decode cL_dispute 12 = .ok (.iconst 2, 1) := by decide +kernel
theorem dL_dispute_13 : decode cL_dispute 13 = .ok (.ireturn, 1) := by decide +kernel
theorem dL_dispute_14 : decode cL_dispute 14 = .ok (.iconst 0, 1) := by decide +kernel
theorem dL_dispute_15 : decode cL_dispute 15 = .ok (.ireturn, 1) := by decide +kernel
set_option maxRecDepth 20000 in
theorem ggL_answer_X4_answer : GoodIn wsL_answer wsX4_answer := goodIn_ca (goodIn_ca (goodIn_r _ [7, 8, 9, 10, 11, 12, 13, 6, 14, 15, 16, 17, 18, 19, 20, 21, 22, 23, 24, 25, 26, 27, 28, 29, 30, 31, 32] (by decide +kernel) (by decide +kernel)) (goodIn_sub (fun _ h => List.mem_cons_of_mem _ (List.mem_append_left _ (List.mem_append_right _ h))) (by decide +kernel))) (goodIn_sub (fun _ h => List.mem_cons_of_mem _ (List.mem_append_right _ h)) (by decide +kernel))
set_option maxRecDepth 20000 in
theorem gL_answer_X4_answer : GoodIn wsL_answer (wsV RL 56 RX4 yX4_answer wsX4_answer) := goodIn_app (goodIn_of _ (by decide +kernel)) ggL_answer_X4_answer
theorem dL_answer_0 : decode cL_answer 0 = .ok (.aload_n 0, 1) := by decide +kernel
theorem dL_answer_1 : decode cL_answer 1 = .ok (.iload_n 1, 1) := by decide +kernel
theorem dL_answer_2 : decode cL_answer 2 = .ok (.iload_n 2, 1) := by decide +kernel
theorem dL_answer_3 : decode cL_answer 3 = .ok (.invokevirtual 56, 3) := by decide +kernel
theorem dL_answer_6 : decode cL_answer 6 = .ok (.goto 9, 3) := by decide +kernel
theorem dL_answer_9 : decode cL_answer 9 = .ok (.astore_n 3, 1) := by decide +kernel
theorem dL_answer_10 : decode cL_answer 10 = .ok (.iconst 1, 1) := by decide +kernel
theorem dL_answer_11 : decode cL_answer 11 = .ok (.ireturn, 1) := by decide +kernel
theorem dL_answer_12 : decode cL_answer 12 = .ok (.astore_n 3, 1) := by decide +kernel
theorem dL_answer_13 : decode cL_answer 13 = .ok (.iconst 2, 1) := by decide +kernel
theorem dL_answer_14 : decode cL_answer 14 = .ok (.ireturn, 1) := by decide +kernel
theorem dL_answer_15 : decode cL_answer 15 = .ok (.iconst 0, 1) := by decide +kernel
theorem dL_answer_16 : decode cL_answer 16 = .ok (.ireturn, 1) := by decide +kernel
set_option maxRecDepth 20000 in
theorem ggL_agree_X4_agree : GoodIn wsL_agree wsX4_agree := goodIn_ca (goodIn_ca (goodIn_r _ [7, 8, 9, 10, 11, 12, 13, 14, 6, 15, 16, 17, 18, 19, 20, 21, 22, 23, 24, 25, 26, 27, 28, 29, 30, 31, 32, 33, 34, 35, 36, 37, 38, 39, 40] (by decide +kernel) (by decide +kernel)) (goodIn_sub (fun _ h => List.mem_cons_of_mem _ (List.mem_append_left _ (List.mem_append_right _ h))) (by decide +kernel))) (goodIn_sub (fun _ h => List.mem_cons_of_mem _ (List.mem_append_right _ h)) (by decide +kernel))
set_option maxRecDepth 20000 in
theorem gL_agree_X4_agree : GoodIn wsL_agree (wsV RL 60 RX4 yX4_agree wsX4_agree) := goodIn_app (goodIn_of _ (by decide +kernel)) ggL_agree_X4_agree
theorem dL_agree_0 : decode cL_agree 0 = .ok (.aload_n 0, 1) := by decide +kernel
theorem dL_agree_1 : decode cL_agree 1 = .ok (.iload_n 1, 1) := by decide +kernel
theorem dL_agree_2 : decode cL_agree 2 = .ok (.iload_n 2, 1) := by decide +kernel
theorem dL_agree_3 : decode cL_agree 3 = .ok (.iload_n 3, 1) := by decide +kernel
theorem dL_agree_4 : decode cL_agree 4 = .ok (.iload 4, 2) := by decide +kernel
theorem dL_agree_6 : decode cL_agree 6 = .ok (.iload 5, 2) := by decide +kernel
theorem dL_agree_8 : decode cL_agree 8 = .ok (.invokevirtual 60, 3) := by decide +kernel
theorem dL_agree_11 : decode cL_agree 11 = .ok (.goto 11, 3) := by decide +kernel
theorem dL_agree_14 : decode cL_agree 14 = .ok (.astore 6, 2) := by decide +kernel
theorem dL_agree_16 : decode cL_agree 16 = .ok (.iconst 1, 1) := by decide +kernel
theorem dL_agree_17 : decode cL_agree 17 = .ok (.ireturn, 1) := by decide +kernel
theorem dL_agree_18 : decode cL_agree 18 = .ok (.astore 6, 2) := by decide +kernel
theorem dL_agree_20 : decode cL_agree 20 = .ok (.iconst 2, 1) := by decide +kernel
theorem dL_agree_21 : decode cL_agree 21 = .ok (.ireturn, 1) := by decide +kernel
theorem dL_agree_22 : decode cL_agree 22 = .ok (.iconst 0, 1) := by decide +kernel
theorem dL_agree_23 : decode cL_agree 23 = .ok (.ireturn, 1) := by decide +kernel
set_option maxRecDepth 20000 in
theorem ggL_promise_X4_promise : GoodIn wsL_promise wsX4_promise := goodIn_ca (goodIn_ca (goodIn_r _ [7, 8, 9, 10, 11, 12, 6, 13, 14, 15, 16, 17, 18, 19, 20, 21, 22, 23, 24, 25, 26, 27, 28, 29, 30, 31, 32, 33, 34, 35, 36, 37, 38] (by decide +kernel) (by decide +kernel)) (goodIn_sub (fun _ h => List.mem_cons_of_mem _ (List.mem_append_left _ (List.mem_append_right _ h))) (by decide +kernel))) (goodIn_sub (fun _ h => List.mem_cons_of_mem _ (List.mem_append_right _ h)) (by decide +kernel))
set_option maxRecDepth 20000 in
theorem gL_promise_X4_promise : GoodIn wsL_promise (wsV RL 64 RX4 yX4_promise wsX4_promise) := goodIn_app (goodIn_of _ (by decide +kernel)) ggL_promise_X4_promise
theorem dL_promise_0 : decode cL_promise 0 = .ok (.aload 4, 2) := by decide +kernel
theorem dL_promise_2 : decode cL_promise 2 = .ok (.iconst 0, 1) := by decide +kernel
theorem dL_promise_3 : decode cL_promise 3 = .ok (.aload_n 0, 1) := by decide +kernel
theorem dL_promise_4 : decode cL_promise 4 = .ok (.iload_n 1, 1) := by decide +kernel
theorem dL_promise_5 : decode cL_promise 5 = .ok (.iload_n 2, 1) := by decide +kernel
theorem dL_promise_6 : decode cL_promise 6 = .ok (.iload_n 3, 1) := by decide +kernel
theorem dL_promise_7 : decode cL_promise 7 = .ok (.invokevirtual 64, 3) := by decide +kernel
theorem dL_promise_10 : decode cL_promise 10 = .ok (.i2l, 1) := by decide +kernel
theorem dL_promise_11 : decode cL_promise 11 = .ok (.lastore, 1) := by decide +kernel
theorem dL_promise_12 : decode cL_promise 12 = .ok (.goto 11, 3) := by decide +kernel
theorem dL_promise_15 : decode cL_promise 15 = .ok (.astore 5, 2) := by decide +kernel
theorem dL_promise_17 : decode cL_promise 17 = .ok (.iconst 1, 1) := by decide +kernel
theorem dL_promise_18 : decode cL_promise 18 = .ok (.ireturn, 1) := by decide +kernel
theorem dL_promise_19 : decode cL_promise 19 = .ok (.astore 5, 2) := by decide +kernel
theorem dL_promise_21 : decode cL_promise 21 = .ok (.iconst 2, 1) := by decide +kernel
theorem dL_promise_22 : decode cL_promise 22 = .ok (.ireturn, 1) := by decide +kernel
theorem dL_promise_23 : decode cL_promise 23 = .ok (.iconst 0, 1) := by decide +kernel
theorem dL_promise_24 : decode cL_promise 24 = .ok (.ireturn, 1) := by decide +kernel
set_option maxRecDepth 20000 in
theorem ggL_setRate_X4_setRate : GoodIn wsL_setRate wsX4_setRate := goodIn_ca (goodIn_ca (goodIn_r _ [7, 8, 9, 10, 11, 12, 6, 13, 14, 15, 16, 17, 18, 19, 20, 21, 22, 23, 24, 25, 26, 27, 28, 29, 30, 31, 32, 33, 34, 35] (by decide +kernel) (by decide +kernel)) (goodIn_sub (fun _ h => List.mem_cons_of_mem _ (List.mem_append_left _ (List.mem_append_right _ h))) (by decide +kernel))) (goodIn_sub (fun _ h => List.mem_cons_of_mem _ (List.mem_append_right _ h)) (by decide +kernel))
set_option maxRecDepth 20000 in
theorem gL_setRate_X4_setRate : GoodIn wsL_setRate (wsV RL 67 RX4 yX4_setRate wsX4_setRate) := goodIn_app (goodIn_of _ (by decide +kernel)) ggL_setRate_X4_setRate
theorem dL_setRate_0 : decode cL_setRate 0 = .ok (.aload_n 3, 1) := by decide +kernel
theorem dL_setRate_1 : decode cL_setRate 1 = .ok (.iconst 0, 1) := by decide +kernel
theorem dL_setRate_2 : decode cL_setRate 2 = .ok (.aload_n 0, 1) := by decide +kernel
theorem dL_setRate_3 : decode cL_setRate 3 = .ok (.iload_n 1, 1) := by decide +kernel
theorem dL_setRate_4 : decode cL_setRate 4 = .ok (.iload_n 2, 1) := by decide +kernel
theorem dL_setRate_5 : decode cL_setRate 5 = .ok (.invokevirtual 67, 3) := by decide +kernel
theorem dL_setRate_8 : decode cL_setRate 8 = .ok (.i2l, 1) := by decide +kernel
theorem dL_setRate_9 : decode cL_setRate 9 = .ok (.lastore, 1) := by decide +kernel
theorem dL_setRate_10 : decode cL_setRate 10 = .ok (.goto 11, 3) := by decide +kernel
theorem dL_setRate_13 : decode cL_setRate 13 = .ok (.astore 4, 2) := by decide +kernel
theorem dL_setRate_15 : decode cL_setRate 15 = .ok (.iconst 1, 1) := by decide +kernel
theorem dL_setRate_16 : decode cL_setRate 16 = .ok (.ireturn, 1) := by decide +kernel
theorem dL_setRate_17 : decode cL_setRate 17 = .ok (.astore 4, 2) := by decide +kernel
theorem dL_setRate_19 : decode cL_setRate 19 = .ok (.iconst 2, 1) := by decide +kernel
theorem dL_setRate_20 : decode cL_setRate 20 = .ok (.ireturn, 1) := by decide +kernel
theorem dL_setRate_21 : decode cL_setRate 21 = .ok (.iconst 0, 1) := by decide +kernel
theorem dL_setRate_22 : decode cL_setRate 22 = .ok (.ireturn, 1) := by decide +kernel
set_option maxRecDepth 20000 in
theorem ggL_nextMonth_X4_nextMonth : GoodIn wsL_nextMonth wsX4_nextMonth := goodIn_ca (goodIn_r _ [6, 7, 8, 9, 10, 11, 12, 5, 13, 14, 15, 16, 17, 18, 19, 20, 21, 22, 23, 24, 25, 26, 27, 28, 29, 30, 31] (by decide +kernel) (by decide +kernel)) (goodIn_sub (fun _ h => List.mem_cons_of_mem _ (List.mem_append_right _ h)) (by decide +kernel))
set_option maxRecDepth 20000 in
theorem gL_nextMonth_X4_nextMonth : GoodIn wsL_nextMonth (wsV RL 70 RX4 yX4_nextMonth wsX4_nextMonth) := goodIn_app (goodIn_of _ (by decide +kernel)) ggL_nextMonth_X4_nextMonth
theorem dL_nextMonth_0 : decode cL_nextMonth 0 = .ok (.aload_n 1, 1) := by decide +kernel
theorem dL_nextMonth_1 : decode cL_nextMonth 1 = .ok (.iconst 0, 1) := by decide +kernel
theorem dL_nextMonth_2 : decode cL_nextMonth 2 = .ok (.aload_n 0, 1) := by decide +kernel
theorem dL_nextMonth_3 : decode cL_nextMonth 3 = .ok (.invokevirtual 70, 3) := by decide +kernel
theorem dL_nextMonth_6 : decode cL_nextMonth 6 = .ok (.i2l, 1) := by decide +kernel
theorem dL_nextMonth_7 : decode cL_nextMonth 7 = .ok (.lastore, 1) := by decide +kernel
theorem dL_nextMonth_8 : decode cL_nextMonth 8 = .ok (.goto 6, 3) := by decide +kernel
theorem dL_nextMonth_11 : decode cL_nextMonth 11 = .ok (.astore_n 2, 1) := by decide +kernel
theorem dL_nextMonth_12 : decode cL_nextMonth 12 = .ok (.iconst 1, 1) := by decide +kernel
theorem dL_nextMonth_13 : decode cL_nextMonth 13 = .ok (.ireturn, 1) := by decide +kernel
theorem dL_nextMonth_14 : decode cL_nextMonth 14 = .ok (.iconst 0, 1) := by decide +kernel
theorem dL_nextMonth_15 : decode cL_nextMonth 15 = .ok (.ireturn, 1) := by decide +kernel
set_option maxRecDepth 20000 in
theorem ggL_owed_X4_owed : GoodIn wsL_owed wsX4_owed := goodIn_ca (goodIn_ca (goodIn_r _ [7, 8, 9, 10, 11, 6, 12, 13, 14, 15, 16, 17, 18, 19, 20, 21, 22, 23, 24, 25, 26, 27, 28, 29, 30, 31, 32, 33, 34, 35, 36, 37, 38, 39, 40, 41, 42, 43, 44, 45, 46, 47, 48, 49, 50, 51, 52, 53, 54, 55, 56, 57, 58, 59, 60, 61, 62, 63, 64, 65, 66, 67, 68, 69, 70, 71, 72, 73, 74, 75, 76, 77, 78, 79, 80, 81] (by decide +kernel) (by decide +kernel)) (goodIn_sub (fun _ h => List.mem_cons_of_mem _ (List.mem_append_left _ (List.mem_append_right _ h))) (by decide +kernel))) (goodIn_sub (fun _ h => List.mem_cons_of_mem _ (List.mem_append_right _ h)) (by decide +kernel))
set_option maxRecDepth 20000 in
theorem gL_owed_X4_owed : GoodIn wsL_owed (wsV RL 74 RX4 yX4_owed wsX4_owed) := goodIn_app (goodIn_of _ (by decide +kernel)) ggL_owed_X4_owed
theorem dL_owed_0 : decode cL_owed 0 = .ok (.aload 4, 2) := by decide +kernel
theorem dL_owed_2 : decode cL_owed 2 = .ok (.iconst 0, 1) := by decide +kernel
theorem dL_owed_3 : decode cL_owed 3 = .ok (.aload_n 0, 1) := by decide +kernel
theorem dL_owed_4 : decode cL_owed 4 = .ok (.iload_n 1, 1) := by decide +kernel
theorem dL_owed_5 : decode cL_owed 5 = .ok (.iload_n 2, 1) := by decide +kernel
theorem dL_owed_6 : decode cL_owed 6 = .ok (.iload_n 3, 1) := by decide +kernel
theorem dL_owed_7 : decode cL_owed 7 = .ok (.invokevirtual 74, 3) := by decide +kernel
theorem dL_owed_10 : decode cL_owed 10 = .ok (.lastore, 1) := by decide +kernel
theorem dL_owed_11 : decode cL_owed 11 = .ok (.goto 11, 3) := by decide +kernel
theorem dL_owed_14 : decode cL_owed 14 = .ok (.astore 5, 2) := by decide +kernel
theorem dL_owed_16 : decode cL_owed 16 = .ok (.iconst 1, 1) := by decide +kernel
theorem dL_owed_17 : decode cL_owed 17 = .ok (.ireturn, 1) := by decide +kernel
theorem dL_owed_18 : decode cL_owed 18 = .ok (.astore 5, 2) := by decide +kernel
theorem dL_owed_20 : decode cL_owed 20 = .ok (.iconst 2, 1) := by decide +kernel
theorem dL_owed_21 : decode cL_owed 21 = .ok (.ireturn, 1) := by decide +kernel
theorem dL_owed_22 : decode cL_owed 22 = .ok (.iconst 0, 1) := by decide +kernel
theorem dL_owed_23 : decode cL_owed 23 = .ok (.ireturn, 1) := by decide +kernel
set_option maxRecDepth 20000 in
theorem ggL_shortfall_X4_shortfall : GoodIn wsL_shortfall wsX4_shortfall := goodIn_ca (goodIn_ca (goodIn_ca (goodIn_r _ [8, 9, 10, 11, 12, 13, 14, 15, 16, 17, 18, 19, 7, 20, 21, 22, 23, 24, 25, 26, 27, 28, 29, 30, 31, 32, 33, 34, 35, 36, 37, 38, 39, 40, 41, 42, 43, 44, 45, 46, 47, 48, 49, 50, 51, 52, 53, 54, 55, 56, 57, 58, 59, 60, 61, 62, 63, 64, 65, 66, 67, 68, 69, 70, 71, 72, 73, 74, 75, 76, 77, 78, 79, 80, 81, 82, 83, 84, 85, 86, 87, 88, 89, 90] (by decide +kernel) (by decide +kernel)) (goodIn_sub (fun _ h => List.mem_cons_of_mem _ (List.mem_append_left _ (List.mem_append_left _ (List.mem_append_right _ h)))) (by decide +kernel))) (goodIn_sub (fun _ h => List.mem_cons_of_mem _ (List.mem_append_left _ (List.mem_append_right _ h))) (by decide +kernel))) (goodIn_sub (fun _ h => List.mem_cons_of_mem _ (List.mem_append_right _ h)) (by decide +kernel))
set_option maxRecDepth 20000 in
theorem gL_shortfall_X4_shortfall : GoodIn wsL_shortfall (wsV RL 78 RX4 yX4_shortfall wsX4_shortfall) := goodIn_app (goodIn_of _ (by decide +kernel)) ggL_shortfall_X4_shortfall
theorem dL_shortfall_0 : decode cL_shortfall 0 = .ok (.aload 4, 2) := by decide +kernel
theorem dL_shortfall_2 : decode cL_shortfall 2 = .ok (.iconst 0, 1) := by decide +kernel
theorem dL_shortfall_3 : decode cL_shortfall 3 = .ok (.aload_n 0, 1) := by decide +kernel
theorem dL_shortfall_4 : decode cL_shortfall 4 = .ok (.iload_n 1, 1) := by decide +kernel
theorem dL_shortfall_5 : decode cL_shortfall 5 = .ok (.iload_n 2, 1) := by decide +kernel
theorem dL_shortfall_6 : decode cL_shortfall 6 = .ok (.iload_n 3, 1) := by decide +kernel
theorem dL_shortfall_7 : decode cL_shortfall 7 = .ok (.invokevirtual 78, 3) := by decide +kernel
theorem dL_shortfall_10 : decode cL_shortfall 10 = .ok (.lastore, 1) := by decide +kernel
theorem dL_shortfall_11 : decode cL_shortfall 11 = .ok (.goto 15, 3) := by decide +kernel
theorem dL_shortfall_14 : decode cL_shortfall 14 = .ok (.astore 5, 2) := by decide +kernel
theorem dL_shortfall_16 : decode cL_shortfall 16 = .ok (.iconst 1, 1) := by decide +kernel
theorem dL_shortfall_17 : decode cL_shortfall 17 = .ok (.ireturn, 1) := by decide +kernel
theorem dL_shortfall_18 : decode cL_shortfall 18 = .ok (.astore 5, 2) := by decide +kernel
theorem dL_shortfall_20 : decode cL_shortfall 20 = .ok (.iconst 2, 1) := by decide +kernel
theorem dL_shortfall_21 : decode cL_shortfall 21 = .ok (.ireturn, 1) := by decide +kernel
theorem dL_shortfall_22 : decode cL_shortfall 22 = .ok (.astore 5, 2) := by decide +kernel
theorem dL_shortfall_24 : decode cL_shortfall 24 = .ok (.iconst 3, 1) := by decide +kernel
theorem dL_shortfall_25 : decode cL_shortfall 25 = .ok (.ireturn, 1) := by decide +kernel
theorem dL_shortfall_26 : decode cL_shortfall 26 = .ok (.iconst 0, 1) := by decide +kernel
theorem dL_shortfall_27 : decode cL_shortfall 27 = .ok (.ireturn, 1) := by decide +kernel
set_option maxRecDepth 20000 in
theorem ggL_net_X4_net : GoodIn wsL_net wsX4_net := goodIn_ca (goodIn_ca (goodIn_r _ [7, 8, 9, 10, 11, 12, 6, 13, 14, 15, 16, 17, 18, 19, 20, 21, 22, 23, 24, 25, 26, 27, 28, 29, 30, 31, 32, 33, 34, 35, 36, 37, 38, 39, 40, 41, 42, 43, 44, 45, 46, 47, 48, 49, 50, 51, 52, 53, 54, 55, 56, 57, 58, 59, 60, 61, 62, 63, 64, 65, 66, 67, 68, 69, 70, 71, 72, 73, 74, 75, 76, 77, 78, 79, 80, 81, 82, 83, 84, 85, 86, 87, 88, 89, 90, 91, 92, 93] (by decide +kernel) (by decide +kernel)) (goodIn_sub (fun _ h => List.mem_cons_of_mem _ (List.mem_append_left _ (List.mem_append_right _ h))) (by decide +kernel))) (goodIn_sub (fun _ h => List.mem_cons_of_mem _ (List.mem_append_right _ h)) (by decide +kernel))
set_option maxRecDepth 20000 in
theorem gL_net_X4_net : GoodIn wsL_net (wsV RL 81 RX4 yX4_net wsX4_net) := goodIn_app (goodIn_of _ (by decide +kernel)) ggL_net_X4_net
