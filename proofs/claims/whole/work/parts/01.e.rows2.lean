theorem dX4_lookAtAllFrom_0 : decode cX4_lookAtAllFrom 0 = .ok (.aload_n 1, 1) := by decide +kernel
theorem dX4_lookAtAllFrom_1 : decode cX4_lookAtAllFrom 1 = .ok (.getfield 103, 3) := by decide +kernel
theorem dX4_lookAtAllFrom_4 : decode cX4_lookAtAllFrom 4 = .ok (.astore_n 2, 1) := by decide +kernel
theorem dX4_lookAtAllFrom_5 : decode cX4_lookAtAllFrom 5 = .ok (.aload_n 1, 1) := by decide +kernel
theorem dX4_lookAtAllFrom_6 : decode cX4_lookAtAllFrom 6 = .ok (.astore_n 3, 1) := by decide +kernel
theorem dX4_lookAtAllFrom_7 : decode cX4_lookAtAllFrom 7 = .ok (.iconst 0, 1) := by decide +kernel
theorem dX4_lookAtAllFrom_8 : decode cX4_lookAtAllFrom 8 = .ok (.istore 4, 2) := by decide +kernel
theorem dX4_lookAtAllFrom_10 : decode cX4_lookAtAllFrom 10 = .ok (.iload 4, 2) := by decide +kernel
theorem dX4_lookAtAllFrom_12 : decode cX4_lookAtAllFrom 12 = .ok (.bipush 30, 2) := by decide +kernel
theorem dX4_lookAtAllFrom_14 : decode cX4_lookAtAllFrom 14 = .ok (.if_icmp .ge 38, 3) := by decide +kernel
theorem dX4_lookAtAllFrom_17 : decode cX4_lookAtAllFrom 17 = .ok (.aload_n 3, 1) := by decide +kernel
theorem dX4_lookAtAllFrom_18 : decode cX4_lookAtAllFrom 18 = .ok (.ifnull 34, 3) := by decide +kernel
theorem dX4_lookAtAllFrom_21 : decode cX4_lookAtAllFrom 21 = .ok (.aload_n 0, 1) := by decide +kernel
theorem dX4_lookAtAllFrom_22 : decode cX4_lookAtAllFrom 22 = .ok (.aload_n 3, 1) := by decide +kernel
theorem dX4_lookAtAllFrom_23 : decode cX4_lookAtAllFrom 23 = .ok (.invokevirtual 208, 3) := by decide +kernel
theorem dX4_lookAtAllFrom_26 : decode cX4_lookAtAllFrom 26 = .ok (.aload_n 2, 1) := by decide +kernel
theorem dX4_lookAtAllFrom_27 : decode cX4_lookAtAllFrom 27 = .ok (.dup, 1) := by decide +kernel
theorem dX4_lookAtAllFrom_28 : decode cX4_lookAtAllFrom 28 = .ok (.getfield 107, 3) := by decide +kernel
theorem dX4_lookAtAllFrom_31 : decode cX4_lookAtAllFrom 31 = .ok (.iconst 1, 1) := by decide +kernel
theorem dX4_lookAtAllFrom_32 : decode cX4_lookAtAllFrom 32 = .ok (.iadd, 1) := by decide +kernel
theorem dX4_lookAtAllFrom_33 : decode cX4_lookAtAllFrom 33 = .ok (.putfield 107, 3) := by decide +kernel
theorem dX4_lookAtAllFrom_36 : decode cX4_lookAtAllFrom 36 = .ok (.aload_n 0, 1) := by decide +kernel
theorem dX4_lookAtAllFrom_37 : decode cX4_lookAtAllFrom 37 = .ok (.aload_n 2, 1) := by decide +kernel
theorem dX4_lookAtAllFrom_38 : decode cX4_lookAtAllFrom 38 = .ok (.aload_n 2, 1) := by decide +kernel
theorem dX4_lookAtAllFrom_39 : decode cX4_lookAtAllFrom 39 = .ok (.getfield 107, 3) := by decide +kernel
theorem dX4_lookAtAllFrom_42 : decode cX4_lookAtAllFrom 42 = .ok (.invokevirtual 110, 3) := by decide +kernel
theorem dX4_lookAtAllFrom_45 : decode cX4_lookAtAllFrom 45 = .ok (.astore_n 3, 1) := by decide +kernel
theorem dX4_lookAtAllFrom_46 : decode cX4_lookAtAllFrom 46 = .ok (.iinc 4 1, 3) := by decide +kernel
theorem dX4_lookAtAllFrom_49 : decode cX4_lookAtAllFrom 49 = .ok (.goto (-39), 3) := by decide +kernel
theorem dX4_lookAtAllFrom_52 : decode cX4_lookAtAllFrom 52 = .ok (.return_, 1) := by decide +kernel
set_option maxRecDepth 20000 in
theorem ggX4_lookAt_X4_wrongCallsOf : GoodIn wsX4_lookAt wsX4_wrongCallsOf := goodIn_r _ [9, 10, 11, 12, 13, 14, 15, 16, 17, 18, 19, 20, 21, 22, 23, 24, 25, 26, 27, 28, 29, 30, 45, 46, 47, 48, 49, 50, 51, 57, 58, 59, 60, 61, 62, 63, 52, 53, 54, 55, 56, 64, 65, 66, 67, 68, 69, 70, 71, 72, 73, 74] (by decide +kernel) (by decide +kernel)
set_option maxRecDepth 20000 in
theorem gX4_lookAt_X4_wrongCallsOf : GoodIn wsX4_lookAt (wsV RX4 214 RX4 yX4_wrongCallsOf wsX4_wrongCallsOf) := goodIn_app (goodIn_of _ (by decide +kernel)) ggX4_lookAt_X4_wrongCallsOf
set_option maxRecDepth 20000 in
theorem ggX4_lookAt_X4_acceptRightCallsOf : GoodIn wsX4_lookAt wsX4_acceptRightCallsOf := goodIn_r _ [34, 10, 11, 12, 1, 13, 14, 15, 16, 17, 18, 19, 20, 21, 22, 23, 24, 25, 26, 27, 28, 29, 30, 35, 36, 37, 38, 39, 40, 41, 42, 43, 8, 44, 45, 46, 47, 48, 49, 50, 51, 57, 58, 59, 60, 61, 62, 63, 52, 53, 54, 55, 56, 64, 65, 66, 67, 68, 69, 70, 71, 72, 73, 74] (by decide +kernel) (by decide +kernel)
set_option maxRecDepth 20000 in
theorem gX4_lookAt_X4_acceptRightCallsOf : GoodIn wsX4_lookAt (wsV RX4 218 RX4 yX4_acceptRightCallsOf wsX4_acceptRightCallsOf) := goodIn_app (goodIn_of _ (by decide +kernel)) ggX4_lookAt_X4_acceptRightCallsOf
theorem dX4_lookAt_0 : decode cX4_lookAt 0 = .ok (.aload_n 0, 1) := by decide +kernel
theorem dX4_lookAt_1 : decode cX4_lookAt 1 = .ok (.getfield 40, 3) := by decide +kernel
theorem dX4_lookAt_4 : decode cX4_lookAt 4 = .ok (.aload_n 1, 1) := by decide +kernel
theorem dX4_lookAt_5 : decode cX4_lookAt 5 = .ok (.getfield 211, 3) := by decide +kernel
theorem dX4_lookAt_8 : decode cX4_lookAt 8 = .ok (.isub, 1) := by decide +kernel
theorem dX4_lookAt_9 : decode cX4_lookAt 9 = .ok (.iconst 2, 1) := by decide +kernel
theorem dX4_lookAt_10 : decode cX4_lookAt 10 = .ok (.if_icmp .le 11, 3) := by decide +kernel
theorem dX4_lookAt_13 : decode cX4_lookAt 13 = .ok (.aload_n 1, 1) := by decide +kernel
theorem dX4_lookAt_14 : decode cX4_lookAt 14 = .ok (.iconst 3, 1) := by decide +kernel
theorem dX4_lookAt_15 : decode cX4_lookAt 15 = .ok (.putfield 88, 3) := by decide +kernel
theorem dX4_lookAt_18 : decode cX4_lookAt 18 = .ok (.goto 35, 3) := by decide +kernel
theorem dX4_lookAt_21 : decode cX4_lookAt 21 = .ok (.aload_n 0, 1) := by decide +kernel
theorem dX4_lookAt_22 : decode cX4_lookAt 22 = .ok (.aload_n 1, 1) := by decide +kernel
theorem dX4_lookAt_23 : decode cX4_lookAt 23 = .ok (.invokevirtual 214, 3) := by decide +kernel
theorem dX4_lookAt_26 : decode cX4_lookAt 26 = .ok (.iconst 3, 1) := by decide +kernel
theorem dX4_lookAt_27 : decode cX4_lookAt 27 = .ok (.imul, 1) := by decide +kernel
theorem dX4_lookAt_28 : decode cX4_lookAt 28 = .ok (.aload_n 1, 1) := by decide +kernel
theorem dX4_lookAt_29 : decode cX4_lookAt 29 = .ok (.getfield 98, 3) := by decide +kernel
theorem dX4_lookAt_32 : decode cX4_lookAt 32 = .ok (.if_icmp .le 11, 3) := by decide +kernel
theorem dX4_lookAt_35 : decode cX4_lookAt 35 = .ok (.aload_n 1, 1) := by decide +kernel
theorem dX4_lookAt_36 : decode cX4_lookAt 36 = .ok (.iconst 4, 1) := by decide +kernel
theorem dX4_lookAt_37 : decode cX4_lookAt 37 = .ok (.putfield 88, 3) := by decide +kernel
theorem dX4_lookAt_40 : decode cX4_lookAt 40 = .ok (.goto 13, 3) := by decide +kernel
theorem dX4_lookAt_43 : decode cX4_lookAt 43 = .ok (.aload_n 1, 1) := by decide +kernel
theorem dX4_lookAt_44 : decode cX4_lookAt 44 = .ok (.iconst 5, 1) := by decide +kernel
theorem dX4_lookAt_45 : decode cX4_lookAt 45 = .ok (.putfield 88, 3) := by decide +kernel
theorem dX4_lookAt_48 : decode cX4_lookAt 48 = .ok (.aload_n 0, 1) := by decide +kernel
theorem dX4_lookAt_49 : decode cX4_lookAt 49 = .ok (.aload_n 1, 1) := by decide +kernel
theorem dX4_lookAt_50 : decode cX4_lookAt 50 = .ok (.invokevirtual 218, 3) := by decide +kernel
theorem dX4_lookAt_53 : decode cX4_lookAt 53 = .ok (.return_, 1) := by decide +kernel
set_option maxRecDepth 20000 in
theorem ggX4_wrongCallsOf_X0_isRight : GoodIn wsX4_wrongCallsOf wsX0_isRight := goodIn_r _ [8, 9, 10, 11, 12, 13, 14, 15, 16, 17, 18, 19, 20, 21, 29, 30, 31, 32, 33, 34, 35, 36, 37, 38, 39, 40, 41, 42, 43, 44, 45, 46, 47, 48, 49, 50, 51] (by decide +kernel) (by decide +kernel)
set_option maxRecDepth 20000 in
theorem gX4_wrongCallsOf_X0_isRight : GoodIn wsX4_wrongCallsOf (wsV RX4 225 RX0 yX0_isRight wsX0_isRight) := goodIn_app (goodIn_of _ (by decide +kernel)) ggX4_wrongCallsOf_X0_isRight
theorem dX4_wrongCallsOf_0 : decode cX4_wrongCallsOf 0 = .ok (.iconst 0, 1) := by decide +kernel
theorem dX4_wrongCallsOf_1 : decode cX4_wrongCallsOf 1 = .ok (.istore_n 2, 1) := by decide +kernel
theorem dX4_wrongCallsOf_2 : decode cX4_wrongCallsOf 2 = .ok (.iconst 0, 1) := by decide +kernel
theorem dX4_wrongCallsOf_3 : decode cX4_wrongCallsOf 3 = .ok (.istore_n 3, 1) := by decide +kernel
theorem dX4_wrongCallsOf_4 : decode cX4_wrongCallsOf 4 = .ok (.iload_n 3, 1) := by decide +kernel
theorem dX4_wrongCallsOf_5 : decode cX4_wrongCallsOf 5 = .ok (.aload_n 0, 1) := by decide +kernel
theorem dX4_wrongCallsOf_6 : decode cX4_wrongCallsOf 6 = .ok (.getfield 37, 3) := by decide +kernel
theorem dX4_wrongCallsOf_9 : decode cX4_wrongCallsOf 9 = .ok (.if_icmp .ge 37, 3) := by decide +kernel
theorem dX4_wrongCallsOf_12 : decode cX4_wrongCallsOf 12 = .ok (.aload_n 0, 1) := by decide +kernel
theorem dX4_wrongCallsOf_13 : decode cX4_wrongCallsOf 13 = .ok (.getfield 33, 3) := by decide +kernel
theorem dX4_wrongCallsOf_16 : decode cX4_wrongCallsOf 16 = .ok (.iload_n 3, 1) := by decide +kernel
theorem dX4_wrongCallsOf_17 : decode cX4_wrongCallsOf 17 = .ok (.aaload, 1) := by decide +kernel
theorem dX4_wrongCallsOf_18 : decode cX4_wrongCallsOf 18 = .ok (.astore 4, 2) := by decide +kernel
theorem dX4_wrongCallsOf_20 : decode cX4_wrongCallsOf 20 = .ok (.aload 4, 2) := by decide +kernel
theorem dX4_wrongCallsOf_22 : decode cX4_wrongCallsOf 22 = .ok (.getfield 221, 3) := by decide +kernel
theorem dX4_wrongCallsOf_25 : decode cX4_wrongCallsOf 25 = .ok (.aload_n 1, 1) := by decide +kernel
theorem dX4_wrongCallsOf_26 : decode cX4_wrongCallsOf 26 = .ok (.if_acmp .ne 14, 3) := by decide +kernel
theorem dX4_wrongCallsOf_29 : decode cX4_wrongCallsOf 29 = .ok (.aload 4, 2) := by decide +kernel
theorem dX4_wrongCallsOf_31 : decode cX4_wrongCallsOf 31 = .ok (.invokevirtual 225, 3) := by decide +kernel
theorem dX4_wrongCallsOf_34 : decode cX4_wrongCallsOf 34 = .ok (.ifCond .ne 6, 3) := by decide +kernel
theorem dX4_wrongCallsOf_37 : decode cX4_wrongCallsOf 37 = .ok (.iinc 2 1, 3) := by decide +kernel
theorem dX4_wrongCallsOf_40 : decode cX4_wrongCallsOf 40 = .ok (.iinc 3 1, 3) := by decide +kernel
theorem dX4_wrongCallsOf_43 : decode cX4_wrongCallsOf 43 = .ok (.goto (-39), 3) := by decide +kernel
theorem dX4_wrongCallsOf_46 : decode cX4_wrongCallsOf 46 = .ok (.iload_n 2, 1) := by decide +kernel
theorem dX4_wrongCallsOf_47 : decode cX4_wrongCallsOf 47 = .ok (.ireturn, 1) := by decide +kernel
set_option maxRecDepth 20000 in
theorem ggX4_acceptRightCallsOf_X0_isRight : GoodIn wsX4_acceptRightCallsOf wsX0_isRight := goodIn_r _ [9, 10, 11, 12, 13, 14, 15, 16, 17, 18, 19, 20, 21, 22, 41, 42, 43, 44, 45, 46, 47, 48, 49, 50, 51, 52, 53, 54, 55, 56, 57, 58, 59, 60, 61, 62, 63] (by decide +kernel) (by decide +kernel)
set_option maxRecDepth 20000 in
theorem gX4_acceptRightCallsOf_X0_isRight : GoodIn wsX4_acceptRightCallsOf (wsV RX4 225 RX0 yX0_isRight wsX0_isRight) := goodIn_app (goodIn_of _ (by decide +kernel)) ggX4_acceptRightCallsOf_X0_isRight
set_option maxRecDepth 20000 in
theorem ggX4_acceptRightCallsOf_X0_acceptIn : GoodIn wsX4_acceptRightCallsOf wsX0_acceptIn := goodIn_r _ [26, 27, 28, 11, 12, 29, 30, 14, 31, 32, 33, 41, 42, 43, 44, 45, 46, 47, 48, 49, 50, 51, 52, 53, 54, 55, 56, 57, 58, 59] (by decide +kernel) (by decide +kernel)
set_option maxRecDepth 20000 in
theorem gX4_acceptRightCallsOf_X0_acceptIn : GoodIn wsX4_acceptRightCallsOf (wsV RX4 229 RX0 yX0_acceptIn wsX0_acceptIn) := goodIn_app (goodIn_of _ (by decide +kernel)) ggX4_acceptRightCallsOf_X0_acceptIn
theorem dX4_acceptRightCallsOf_0 : decode cX4_acceptRightCallsOf 0 = .ok (.iconst 0, 1) := by decide +kernel
theorem dX4_acceptRightCallsOf_1 : decode cX4_acceptRightCallsOf 1 = .ok (.istore_n 2, 1) := by decide +kernel
theorem dX4_acceptRightCallsOf_2 : decode cX4_acceptRightCallsOf 2 = .ok (.iload_n 2, 1) := by decide +kernel
theorem dX4_acceptRightCallsOf_3 : decode cX4_acceptRightCallsOf 3 = .ok (.aload_n 0, 1) := by decide +kernel
theorem dX4_acceptRightCallsOf_4 : decode cX4_acceptRightCallsOf 4 = .ok (.getfield 37, 3) := by decide +kernel
theorem dX4_acceptRightCallsOf_7 : decode cX4_acceptRightCallsOf 7 = .ok (.if_icmp .ge 39, 3) := by decide +kernel
theorem dX4_acceptRightCallsOf_10 : decode cX4_acceptRightCallsOf 10 = .ok (.aload_n 0, 1) := by decide +kernel
theorem dX4_acceptRightCallsOf_11 : decode cX4_acceptRightCallsOf 11 = .ok (.getfield 33, 3) := by decide +kernel
theorem dX4_acceptRightCallsOf_14 : decode cX4_acceptRightCallsOf 14 = .ok (.iload_n 2, 1) := by decide +kernel
theorem dX4_acceptRightCallsOf_15 : decode cX4_acceptRightCallsOf 15 = .ok (.aaload, 1) := by decide +kernel
theorem dX4_acceptRightCallsOf_16 : decode cX4_acceptRightCallsOf 16 = .ok (.astore_n 3, 1) := by decide +kernel
theorem dX4_acceptRightCallsOf_17 : decode cX4_acceptRightCallsOf 17 = .ok (.aload_n 3, 1) := by decide +kernel
theorem dX4_acceptRightCallsOf_18 : decode cX4_acceptRightCallsOf 18 = .ok (.getfield 221, 3) := by decide +kernel
theorem dX4_acceptRightCallsOf_21 : decode cX4_acceptRightCallsOf 21 = .ok (.aload_n 1, 1) := by decide +kernel
theorem dX4_acceptRightCallsOf_22 : decode cX4_acceptRightCallsOf 22 = .ok (.if_acmp .ne 18, 3) := by decide +kernel
theorem dX4_acceptRightCallsOf_25 : decode cX4_acceptRightCallsOf 25 = .ok (.aload_n 3, 1) := by decide +kernel
theorem dX4_acceptRightCallsOf_26 : decode cX4_acceptRightCallsOf 26 = .ok (.invokevirtual 225, 3) := by decide +kernel
theorem dX4_acceptRightCallsOf_29 : decode cX4_acceptRightCallsOf 29 = .ok (.ifCond .eq 11, 3) := by decide +kernel
theorem dX4_acceptRightCallsOf_32 : decode cX4_acceptRightCallsOf 32 = .ok (.aload_n 3, 1) := by decide +kernel
theorem dX4_acceptRightCallsOf_33 : decode cX4_acceptRightCallsOf 33 = .ok (.aload_n 0, 1) := by decide +kernel
theorem dX4_acceptRightCallsOf_34 : decode cX4_acceptRightCallsOf 34 = .ok (.getfield 40, 3) := by decide +kernel
theorem dX4_acceptRightCallsOf_37 : decode cX4_acceptRightCallsOf 37 = .ok (.invokevirtual 229, 3) := by decide +kernel
theorem dX4_acceptRightCallsOf_40 : decode cX4_acceptRightCallsOf 40 = .ok (.iinc 2 1, 3) := by decide +kernel
theorem dX4_acceptRightCallsOf_43 : decode cX4_acceptRightCallsOf 43 = .ok (.goto (-41), 3) := by decide +kernel
theorem dX4_acceptRightCallsOf_46 : decode cX4_acceptRightCallsOf 46 = .ok (.return_, 1) := by decide +kernel
theorem dX4_giveBackUnanswered_0 : decode cX4_giveBackUnanswered 0 = .ok (.iconst 0, 1) := by decide +kernel
theorem dX4_giveBackUnanswered_1 : decode cX4_giveBackUnanswered 1 = .ok (.istore_n 1, 1) := by decide +kernel
theorem dX4_giveBackUnanswered_2 : decode cX4_giveBackUnanswered 2 = .ok (.iload_n 1, 1) := by decide +kernel
theorem dX4_giveBackUnanswered_3 : decode cX4_giveBackUnanswered 3 = .ok (.aload_n 0, 1) := by decide +kernel
theorem dX4_giveBackUnanswered_4 : decode cX4_giveBackUnanswered 4 = .ok (.getfield 37, 3) := by decide +kernel
theorem dX4_giveBackUnanswered_7 : decode cX4_giveBackUnanswered 7 = .ok (.if_icmp .ge 42, 3) := by decide +kernel
theorem dX4_giveBackUnanswered_10 : decode cX4_giveBackUnanswered 10 = .ok (.aload_n 0, 1) := by decide +kernel
theorem dX4_giveBackUnanswered_11 : decode cX4_giveBackUnanswered 11 = .ok (.getfield 33, 3) := by decide +kernel
theorem dX4_giveBackUnanswered_14 : decode cX4_giveBackUnanswered 14 = .ok (.iload_n 1, 1) := by decide +kernel
theorem dX4_giveBackUnanswered_15 : decode cX4_giveBackUnanswered 15 = .ok (.aaload, 1) := by decide +kernel
theorem dX4_giveBackUnanswered_16 : decode cX4_giveBackUnanswered 16 = .ok (.astore_n 2, 1) := by decide +kernel
theorem dX4_giveBackUnanswered_17 : decode cX4_giveBackUnanswered 17 = .ok (.aload_n 2, 1) := by decide +kernel
theorem dX4_giveBackUnanswered_18 : decode cX4_giveBackUnanswered 18 = .ok (.getfield 131, 3) := by decide +kernel
theorem dX4_giveBackUnanswered_21 : decode cX4_giveBackUnanswered 21 = .ok (.iconst 2, 1) := by decide +kernel
theorem dX4_giveBackUnanswered_22 : decode cX4_giveBackUnanswered 22 = .ok (.if_icmp .ne 21, 3) := by decide +kernel
theorem dX4_giveBackUnanswered_25 : decode cX4_giveBackUnanswered 25 = .ok (.aload_n 0, 1) := by decide +kernel
theorem dX4_giveBackUnanswered_26 : decode cX4_giveBackUnanswered 26 = .ok (.getfield 40, 3) := by decide +kernel
theorem dX4_giveBackUnanswered_29 : decode cX4_giveBackUnanswered 29 = .ok (.aload_n 2, 1) := by decide +kernel
theorem dX4_giveBackUnanswered_30 : decode cX4_giveBackUnanswered 30 = .ok (.getfield 143, 3) := by decide +kernel
theorem dX4_giveBackUnanswered_33 : decode cX4_giveBackUnanswered 33 = .ok (.isub, 1) := by decide +kernel
theorem dX4_giveBackUnanswered_34 : decode cX4_giveBackUnanswered 34 = .ok (.iconst 2, 1) := by decide +kernel
theorem dX4_giveBackUnanswered_35 : decode cX4_giveBackUnanswered 35 = .ok (.if_icmp .lt 8, 3) := by decide +kernel
theorem dX4_giveBackUnanswered_38 : decode cX4_giveBackUnanswered 38 = .ok (.aload_n 2, 1) := by decide +kernel
theorem dX4_giveBackUnanswered_39 : decode cX4_giveBackUnanswered 39 = .ok (.iconst 4, 1) := by decide +kernel
theorem dX4_giveBackUnanswered_40 : decode cX4_giveBackUnanswered 40 = .ok (.putfield 131, 3) := by decide +kernel
theorem dX4_giveBackUnanswered_43 : decode cX4_giveBackUnanswered 43 = .ok (.iinc 1 1, 3) := by decide +kernel
theorem dX4_giveBackUnanswered_46 : decode cX4_giveBackUnanswered 46 = .ok (.goto (-44), 3) := by decide +kernel
theorem dX4_giveBackUnanswered_49 : decode cX4_giveBackUnanswered 49 = .ok (.return_, 1) := by decide +kernel
set_option maxRecDepth 20000 in
theorem ggX4_amountOfMonths_X0_amount : GoodIn wsX4_amountOfMonths wsX0_amount := goodIn_r _ [10, 11, 12, 13, 14, 15, 16, 17, 18, 19, 20, 21, 22, 23, 24, 25, 26, 27, 28, 29, 37, 38, 39, 40, 41, 42, 43, 44, 45, 46, 47, 48, 49, 50, 51, 52, 53, 54, 55] (by decide +kernel) (by decide +kernel)
set_option maxRecDepth 20000 in
theorem gX4_amountOfMonths_X0_amount : GoodIn wsX4_amountOfMonths (wsV RX4 135 RX0 yX0_amount wsX0_amount) := goodIn_app (goodIn_of _ (by decide +kernel)) ggX4_amountOfMonths_X0_amount
theorem dX4_amountOfMonths_0 : decode cX4_amountOfMonths 0 = .ok (.lconst 0, 1) := by decide +kernel
theorem dX4_amountOfMonths_1 : decode cX4_amountOfMonths 1 = .ok (.lstore 4, 2) := by decide +kernel
theorem dX4_amountOfMonths_3 : decode cX4_amountOfMonths 3 = .ok (.iconst 0, 1) := by decide +kernel
theorem dX4_amountOfMonths_4 : decode cX4_amountOfMonths 4 = .ok (.istore 6, 2) := by decide +kernel
theorem dX4_amountOfMonths_6 : decode cX4_amountOfMonths 6 = .ok (.iload 6, 2) := by decide +kernel
theorem dX4_amountOfMonths_8 : decode cX4_amountOfMonths 8 = .ok (.aload_n 0, 1) := by decide +kernel
theorem dX4_amountOfMonths_9 : decode cX4_amountOfMonths 9 = .ok (.getfield 37, 3) := by decide +kernel
theorem dX4_amountOfMonths_12 : decode cX4_amountOfMonths 12 = .ok (.if_icmp .ge 59, 3) := by decide +kernel
theorem dX4_amountOfMonths_15 : decode cX4_amountOfMonths 15 = .ok (.aload_n 0, 1) := by decide +kernel
theorem dX4_amountOfMonths_16 : decode cX4_amountOfMonths 16 = .ok (.getfield 33, 3) := by decide +kernel
theorem dX4_amountOfMonths_19 : decode cX4_amountOfMonths 19 = .ok (.iload 6, 2) := by decide +kernel
theorem dX4_amountOfMonths_21 : decode cX4_amountOfMonths 21 = .ok (.aaload, 1) := by decide +kernel
theorem dX4_amountOfMonths_22 : decode cX4_amountOfMonths 22 = .ok (.astore 7, 2) := by decide +kernel
theorem dX4_amountOfMonths_24 : decode cX4_amountOfMonths 24 = .ok (.aload 7, 2) := by decide +kernel
theorem dX4_amountOfMonths_26 : decode cX4_amountOfMonths 26 = .ok (.getfield 221, 3) := by decide +kernel
theorem dX4_amountOfMonths_29 : decode cX4_amountOfMonths 29 = .ok (.getfield 103, 3) := by decide +kernel
theorem dX4_amountOfMonths_32 : decode cX4_amountOfMonths 32 = .ok (.aload_n 1, 1) := by decide +kernel
theorem dX4_amountOfMonths_33 : decode cX4_amountOfMonths 33 = .ok (.if_acmp .ne 32, 3) := by decide +kernel
theorem dX4_amountOfMonths_36 : decode cX4_amountOfMonths 36 = .ok (.aload 7, 2) := by decide +kernel
theorem dX4_amountOfMonths_38 : decode cX4_amountOfMonths 38 = .ok (.getfield 132, 3) := by decide +kernel
theorem dX4_amountOfMonths_41 : decode cX4_amountOfMonths 41 = .ok (.iload_n 2, 1) := by decide +kernel
theorem dX4_amountOfMonths_42 : decode cX4_amountOfMonths 42 = .ok (.if_icmp .lt 23, 3) := by decide +kernel
theorem dX4_amountOfMonths_45 : decode cX4_amountOfMonths 45 = .ok (.aload 7, 2) := by decide +kernel
theorem dX4_amountOfMonths_47 : decode cX4_amountOfMonths 47 = .ok (.getfield 132, 3) := by decide +kernel
theorem dX4_amountOfMonths_50 : decode cX4_amountOfMonths 50 = .ok (.iload_n 3, 1) := by decide +kernel
theorem dX4_amountOfMonths_51 : decode cX4_amountOfMonths 51 = .ok (.if_icmp .gt 14, 3) := by decide +kernel
theorem dX4_amountOfMonths_54 : decode cX4_amountOfMonths 54 = .ok (.lload 4, 2) := by decide +kernel
theorem dX4_amountOfMonths_56 : decode cX4_amountOfMonths 56 = .ok (.aload 7, 2) := by decide +kernel
theorem dX4_amountOfMonths_58 : decode cX4_amountOfMonths 58 = .ok (.invokevirtual 135, 3) := by decide +kernel
theorem dX4_amountOfMonths_61 : decode cX4_amountOfMonths 61 = .ok (.i2l, 1) := by decide +kernel
theorem dX4_amountOfMonths_62 : decode cX4_amountOfMonths 62 = .ok (.ladd, 1) := by decide +kernel
theorem dX4_amountOfMonths_63 : decode cX4_amountOfMonths 63 = .ok (.lstore 4, 2) := by decide +kernel
theorem dX4_amountOfMonths_65 : decode cX4_amountOfMonths 65 = .ok (.iinc 6 1, 3) := by decide +kernel
theorem dX4_amountOfMonths_68 : decode cX4_amountOfMonths 68 = .ok (.goto (-62), 3) := by decide +kernel
theorem dX4_amountOfMonths_71 : decode cX4_amountOfMonths 71 = .ok (.lload 4, 2) := by decide +kernel
theorem dX4_amountOfMonths_73 : decode cX4_amountOfMonths 73 = .ok (.lreturn, 1) := by decide +kernel
set_option maxRecDepth 20000 in
theorem ggX4_unitsOfMonth_X4_amountOfMonths : GoodIn wsX4_unitsOfMonth wsX4_amountOfMonths := goodIn_r _ [8, 9, 10, 11, 12, 13, 14, 15, 16, 17, 18, 19, 20, 21, 22, 23, 24, 25, 26, 27, 7, 28, 29, 30, 31, 32, 33, 34, 35, 36, 48, 49, 50, 51, 52, 53, 54, 55, 56, 57, 58, 59, 60, 61, 62, 63, 64, 65, 66, 37, 38, 39, 40, 41, 42, 43] (by decide +kernel) (by decide +kernel)
set_option maxRecDepth 20000 in
theorem gX4_unitsOfMonth_X4_amountOfMonths : GoodIn wsX4_unitsOfMonth (wsV RX4 172 RX4 yX4_amountOfMonths wsX4_amountOfMonths) := goodIn_app (goodIn_of _ (by decide +kernel)) ggX4_unitsOfMonth_X4_amountOfMonths
theorem dX4_unitsOfMonth_0 : decode cX4_unitsOfMonth 0 = .ok (.aload_n 0, 1) := by decide +kernel
theorem dX4_unitsOfMonth_1 : decode cX4_unitsOfMonth 1 = .ok (.aload_n 1, 1) := by decide +kernel
theorem dX4_unitsOfMonth_2 : decode cX4_unitsOfMonth 2 = .ok (.iload_n 2, 1) := by decide +kernel
theorem dX4_unitsOfMonth_3 : decode cX4_unitsOfMonth 3 = .ok (.iload_n 2, 1) := by decide +kernel
theorem dX4_unitsOfMonth_4 : decode cX4_unitsOfMonth 4 = .ok (.invokevirtual 172, 3) := by decide +kernel
theorem dX4_unitsOfMonth_7 : decode cX4_unitsOfMonth 7 = .ok (.aload_n 1, 1) := by decide +kernel
theorem dX4_unitsOfMonth_8 : decode cX4_unitsOfMonth 8 = .ok (.getfield 233, 3) := by decide +kernel
theorem dX4_unitsOfMonth_11 : decode cX4_unitsOfMonth 11 = .ok (.getfield 164, 3) := by decide +kernel
theorem dX4_unitsOfMonth_14 : decode cX4_unitsOfMonth 14 = .ok (.i2l, 1) := by decide +kernel
theorem dX4_unitsOfMonth_15 : decode cX4_unitsOfMonth 15 = .ok (.lmul, 1) := by decide +kernel
theorem dX4_unitsOfMonth_16 : decode cX4_unitsOfMonth 16 = .ok (.ldc2_w 237, 3) := by decide +kernel
theorem dX4_unitsOfMonth_19 : decode cX4_unitsOfMonth 19 = .ok (.ldiv, 1) := by decide +kernel
theorem dX4_unitsOfMonth_20 : decode cX4_unitsOfMonth 20 = .ok (.lreturn, 1) := by decide +kernel
theorem dX5_init_0 : decode cX5_init 0 = .ok (.aload_n 0, 1) := by decide +kernel
theorem dX5_init_1 : decode cX5_init 1 = .ok (.invokespecial 1, 3) := by decide +kernel
theorem dX5_init_4 : decode cX5_init 4 = .ok (.aload_n 0, 1) := by decide +kernel
theorem dX5_init_5 : decode cX5_init 5 = .ok (.iconst 4, 1) := by decide +kernel
theorem dX5_init_6 : decode cX5_init 6 = .ok (.newarray .int, 2) := by decide +kernel
theorem dX5_init_8 : decode cX5_init 8 = .ok (.putfield 7, 3) := by decide +kernel
theorem dX5_init_11 : decode cX5_init 11 = .ok (.aload_n 0, 1) := by decide +kernel
theorem dX5_init_12 : decode cX5_init 12 = .ok (.iconst 4, 1) := by decide +kernel
theorem dX5_init_13 : decode cX5_init 13 = .ok (.newarray .int, 2) := by decide +kernel
theorem dX5_init_15 : decode cX5_init 15 = .ok (.putfield 13, 3) := by decide +kernel
theorem dX5_init_18 : decode cX5_init 18 = .ok (.aload_n 0, 1) := by decide +kernel
theorem dX5_init_19 : decode cX5_init 19 = .ok (.iconst 4, 1) := by decide +kernel
theorem dX5_init_20 : decode cX5_init 20 = .ok (.newarray .int, 2) := by decide +kernel
theorem dX5_init_22 : decode cX5_init 22 = .ok (.putfield 16, 3) := by decide +kernel
theorem dX5_init_25 : decode cX5_init 25 = .ok (.aload_n 0, 1) := by decide +kernel
theorem dX5_init_26 : decode cX5_init 26 = .ok (.iconst 4, 1) := by decide +kernel
theorem dX5_init_27 : decode cX5_init 27 = .ok (.newarray .int, 2) := by decide +kernel
theorem dX5_init_29 : decode cX5_init 29 = .ok (.putfield 19, 3) := by decide +kernel
theorem dX5_init_32 : decode cX5_init 32 = .ok (.aload_n 0, 1) := by decide +kernel
theorem dX5_init_33 : decode cX5_init 33 = .ok (.bipush 30, 2) := by decide +kernel
theorem dX5_init_35 : decode cX5_init 35 = .ok (.newarray .int, 2) := by decide +kernel
theorem dX5_init_37 : decode cX5_init 37 = .ok (.putfield 22, 3) := by decide +kernel
theorem dX5_init_40 : decode cX5_init 40 = .ok (.aload_n 0, 1) := by decide +kernel
theorem dX5_init_41 : decode cX5_init 41 = .ok (.bipush 30, 2) := by decide +kernel
theorem dX5_init_43 : decode cX5_init 43 = .ok (.newarray .int, 2) := by decide +kernel
theorem dX5_init_45 : decode cX5_init 45 = .ok (.putfield 25, 3) := by decide +kernel
theorem dX5_init_48 : decode cX5_init 48 = .ok (.aload_n 0, 1) := by decide +kernel
theorem dX5_init_49 : decode cX5_init 49 = .ok (.bipush 30, 2) := by decide +kernel
theorem dX5_init_51 : decode cX5_init 51 = .ok (.newarray .int, 2) := by decide +kernel
theorem dX5_init_53 : decode cX5_init 53 = .ok (.putfield 28, 3) := by decide +kernel
theorem dX5_init_56 : decode cX5_init 56 = .ok (.aload_n 0, 1) := by decide +kernel
theorem dX5_init_57 : decode cX5_init 57 = .ok (.bipush 30, 2) := by decide +kernel
theorem dX5_init_59 : decode cX5_init 59 = .ok (.newarray .int, 2) := by decide +kernel
theorem dX5_init_61 : decode cX5_init 61 = .ok (.putfield 31, 3) := by decide +kernel
theorem dX5_init_64 : decode cX5_init 64 = .ok (.aload_n 0, 1) := by decide +kernel
theorem dX5_init_65 : decode cX5_init 65 = .ok (.bipush 60, 2) := by decide +kernel
theorem dX5_init_67 : decode cX5_init 67 = .ok (.newarray .int, 2) := by decide +kernel
theorem dX5_init_69 : decode cX5_init 69 = .ok (.putfield 34, 3) := by decide +kernel
theorem dX5_init_72 : decode cX5_init 72 = .ok (.aload_n 0, 1) := by decide +kernel
theorem dX5_init_73 : decode cX5_init 73 = .ok (.bipush 60, 2) := by decide +kernel
theorem dX5_init_75 : decode cX5_init 75 = .ok (.newarray .int, 2) := by decide +kernel
theorem dX5_init_77 : decode cX5_init 77 = .ok (.putfield 37, 3) := by decide +kernel
theorem dX5_init_80 : decode cX5_init 80 = .ok (.aload_n 0, 1) := by decide +kernel
theorem dX5_init_81 : decode cX5_init 81 = .ok (.bipush 60, 2) := by decide +kernel
theorem dX5_init_83 : decode cX5_init 83 = .ok (.newarray .int, 2) := by decide +kernel
theorem dX5_init_85 : decode cX5_init 85 = .ok (.putfield 40, 3) := by decide +kernel
theorem dX5_init_88 : decode cX5_init 88 = .ok (.aload_n 0, 1) := by decide +kernel
theorem dX5_init_89 : decode cX5_init 89 = .ok (.bipush 60, 2) := by decide +kernel
theorem dX5_init_91 : decode cX5_init 91 = .ok (.newarray .int, 2) := by decide +kernel
theorem dX5_init_93 : decode cX5_init 93 = .ok (.putfield 43, 3) := by decide +kernel
theorem dX5_init_96 : decode cX5_init 96 = .ok (.aload_n 0, 1) := by decide +kernel
theorem dX5_init_97 : decode cX5_init 97 = .ok (.bipush 60, 2) := by decide +kernel
theorem dX5_init_99 : decode cX5_init 99 = .ok (.newarray .int, 2) := by decide +kernel
theorem dX5_init_101 : decode cX5_init 101 = .ok (.putfield 46, 3) := by decide +kernel
theorem dX5_init_104 : decode cX5_init 104 = .ok (.aload_n 0, 1) := by decide +kernel
theorem dX5_init_105 : decode cX5_init 105 = .ok (.bipush 60, 2) := by decide +kernel
theorem dX5_init_107 : decode cX5_init 107 = .ok (.newarray .int, 2) := by decide +kernel
theorem dX5_init_109 : decode cX5_init 109 = .ok (.putfield 49, 3) := by decide +kernel
theorem dX5_init_112 : decode cX5_init 112 = .ok (.aload_n 0, 1) := by decide +kernel
theorem dX5_init_113 : decode cX5_init 113 = .ok (.bipush 60, 2) := by decide +kernel
theorem dX5_init_115 : decode cX5_init 115 = .ok (.newarray .int, 2) := by decide +kernel
theorem dX5_init_117 : decode cX5_init 117 = .ok (.putfield 52, 3) := by decide +kernel
theorem dX5_init_120 : decode cX5_init 120 = .ok (.aload_n 0, 1) := by decide +kernel
theorem dX5_init_121 : decode cX5_init 121 = .ok (.bipush 16, 2) := by decide +kernel
theorem dX5_init_123 : decode cX5_init 123 = .ok (.newarray .int, 2) := by decide +kernel
theorem dX5_init_125 : decode cX5_init 125 = .ok (.putfield 55, 3) := by decide +kernel
theorem dX5_init_128 : decode cX5_init 128 = .ok (.aload_n 0, 1) := by decide +kernel
theorem dX5_init_129 : decode cX5_init 129 = .ok (.bipush 16, 2) := by decide +kernel
theorem dX5_init_131 : decode cX5_init 131 = .ok (.newarray .boolean, 2) := by decide +kernel
theorem dX5_init_133 : decode cX5_init 133 = .ok (.putfield 58, 3) := by decide +kernel
theorem dX5_init_136 : decode cX5_init 136 = .ok (.aload_n 0, 1) := by decide +kernel
theorem dX5_init_137 : decode cX5_init 137 = .ok (.bipush 16, 2) := by decide +kernel
theorem dX5_init_139 : decode cX5_init 139 = .ok (.newarray .int, 2) := by decide +kernel
theorem dX5_init_141 : decode cX5_init 141 = .ok (.putfield 62, 3) := by decide +kernel
theorem dX5_init_144 : decode cX5_init 144 = .ok (.aload_n 0, 1) := by decide +kernel
theorem dX5_init_145 : decode cX5_init 145 = .ok (.bipush 16, 2) := by decide +kernel
theorem dX5_init_147 : decode cX5_init 147 = .ok (.newarray .int, 2) := by decide +kernel
theorem dX5_init_149 : decode cX5_init 149 = .ok (.putfield 65, 3) := by decide +kernel
theorem dX5_init_152 : decode cX5_init 152 = .ok (.aload_n 0, 1) := by decide +kernel
theorem dX5_init_153 : decode cX5_init 153 = .ok (.bipush 16, 2) := by decide +kernel
theorem dX5_init_155 : decode cX5_init 155 = .ok (.newarray .boolean, 2) := by decide +kernel
theorem dX5_init_157 : decode cX5_init 157 = .ok (.putfield 68, 3) := by decide +kernel
theorem dX5_init_160 : decode cX5_init 160 = .ok (.aload_n 0, 1) := by decide +kernel
theorem dX5_init_161 : decode cX5_init 161 = .ok (.bipush 16, 2) := by decide +kernel
theorem dX5_init_163 : decode cX5_init 163 = .ok (.newarray .int, 2) := by decide +kernel
theorem dX5_init_165 : decode cX5_init 165 = .ok (.putfield 71, 3) := by decide +kernel
theorem dX5_init_168 : decode cX5_init 168 = .ok (.iconst 0, 1) := by decide +kernel
theorem dX5_init_169 : decode cX5_init 169 = .ok (.istore_n 1, 1) := by decide +kernel
theorem dX5_init_170 : decode cX5_init 170 = .ok (.iload_n 1, 1) := by decide +kernel
theorem dX5_init_171 : decode cX5_init 171 = .ok (.iconst 4, 1) := by decide +kernel
theorem dX5_init_172 : decode cX5_init 172 = .ok (.if_icmp .ge 34, 3) := by decide +kernel
theorem dX5_init_175 : decode cX5_init 175 = .ok (.aload_n 0, 1) := by decide +kernel
theorem dX5_init_176 : decode cX5_init 176 = .ok (.getfield 7, 3) := by decide +kernel
theorem dX5_init_179 : decode cX5_init 179 = .ok (.iload_n 1, 1) := by decide +kernel
theorem dX5_init_180 : decode cX5_init 180 = .ok (.bipush 60, 2) := by decide +kernel
theorem dX5_init_182 : decode cX5_init 182 = .ok (.iastore, 1) := by decide +kernel
theorem dX5_init_183 : decode cX5_init 183 = .ok (.aload_n 0, 1) := by decide +kernel
theorem dX5_init_184 : decode cX5_init 184 = .ok (.getfield 13, 3) := by decide +kernel
theorem dX5_init_187 : decode cX5_init 187 = .ok (.iload_n 1, 1) := by decide +kernel
theorem dX5_init_188 : decode cX5_init 188 = .ok (.bipush 10, 2) := by decide +kernel
theorem dX5_init_190 : decode cX5_init 190 = .ok (.iastore, 1) := by decide +kernel
theorem dX5_init_191 : decode cX5_init 191 = .ok (.aload_n 0, 1) := by decide +kernel
theorem dX5_init_192 : decode cX5_init 192 = .ok (.getfield 19, 3) := by decide +kernel
theorem dX5_init_195 : decode cX5_init 195 = .ok (.iload_n 1, 1) := by decide +kernel
theorem dX5_init_196 : decode cX5_init 196 = .ok (.sipush 1000, 3) := by decide +kernel
theorem dX5_init_199 : decode cX5_init 199 = .ok (.iastore, 1) := by decide +kernel
theorem dX5_init_200 : decode cX5_init 200 = .ok (.iinc 1 1, 3) := by decide +kernel
theorem dX5_init_203 : decode cX5_init 203 = .ok (.goto (-33), 3) := by decide +kernel
theorem dX5_init_206 : decode cX5_init 206 = .ok (.iconst 0, 1) := by decide +kernel
theorem dX5_init_207 : decode cX5_init 207 = .ok (.istore_n 1, 1) := by decide +kernel
theorem dX5_init_208 : decode cX5_init 208 = .ok (.iload_n 1, 1) := by decide +kernel
theorem dX5_init_209 : decode cX5_init 209 = .ok (.bipush 16, 2) := by decide +kernel
theorem dX5_init_211 : decode cX5_init 211 = .ok (.if_icmp .ge 16, 3) := by decide +kernel
theorem dX5_init_214 : decode cX5_init 214 = .ok (.aload_n 0, 1) := by decide +kernel
theorem dX5_init_215 : decode cX5_init 215 = .ok (.getfield 55, 3) := by decide +kernel
theorem dX5_init_218 : decode cX5_init 218 = .ok (.iload_n 1, 1) := by decide +kernel
theorem dX5_init_219 : decode cX5_init 219 = .ok (.iconst 1, 1) := by decide +kernel
theorem dX5_init_220 : decode cX5_init 220 = .ok (.iastore, 1) := by decide +kernel
theorem dX5_init_221 : decode cX5_init 221 = .ok (.iinc 1 1, 3) := by decide +kernel
theorem dX5_init_224 : decode cX5_init 224 = .ok (.goto (-16), 3) := by decide +kernel
theorem dX5_init_227 : decode cX5_init 227 = .ok (.return_, 1) := by decide +kernel
theorem dX5_thrown_0 : decode cX5_thrown 0 = .ok (.aload_n 0, 1) := by decide +kernel
theorem dX5_thrown_1 : decode cX5_thrown 1 = .ok (.getfield 74, 3) := by decide +kernel
theorem dX5_thrown_4 : decode cX5_thrown 4 = .ok (.ireturn, 1) := by decide +kernel
theorem dX5_in_0 : decode cX5_in 0 = .ok (.iload_n 0, 1) := by decide +kernel
theorem dX5_in_1 : decode cX5_in 1 = .ok (.iload_n 1, 1) := by decide +kernel
theorem dX5_in_2 : decode cX5_in 2 = .ok (.if_icmp .lt 12, 3) := by decide +kernel
theorem dX5_in_5 : decode cX5_in 5 = .ok (.iload_n 0, 1) := by decide +kernel
theorem dX5_in_6 : decode cX5_in 6 = .ok (.iload_n 2, 1) := by decide +kernel
theorem dX5_in_7 : decode cX5_in 7 = .ok (.if_icmp .gt 7, 3) := by decide +kernel
theorem dX5_in_10 : decode cX5_in 10 = .ok (.iconst 1, 1) := by decide +kernel
theorem dX5_in_11 : decode cX5_in 11 = .ok (.goto 4, 3) := by decide +kernel
theorem dX5_in_14 : decode cX5_in 14 = .ok (.iconst 0, 1) := by decide +kernel
theorem dX5_in_15 : decode cX5_in 15 = .ok (.ireturn, 1) := by decide +kernel
set_option maxRecDepth 20000 in
theorem ggX5_isOperator_X5_in : GoodIn wsX5_isOperator wsX5_in := goodIn_r _ [4] (by decide +kernel) (by decide +kernel)
set_option maxRecDepth 20000 in
theorem gX5_isOperator_X5_in : GoodIn wsX5_isOperator (va_wsS RX5 78 yX5_in wsX5_in) := goodIn_app (goodIn_of _ (by decide +kernel)) ggX5_isOperator_X5_in
theorem dX5_isOperator_0 : decode cX5_isOperator 0 = .ok (.iload_n 0, 1) := by decide +kernel
theorem dX5_isOperator_1 : decode cX5_isOperator 1 = .ok (.iconst 0, 1) := by decide +kernel
theorem dX5_isOperator_2 : decode cX5_isOperator 2 = .ok (.iconst 3, 1) := by decide +kernel
theorem dX5_isOperator_3 : decode cX5_isOperator 3 = .ok (.invokestatic 78, 3) := by decide +kernel
theorem dX5_isOperator_6 : decode cX5_isOperator 6 = .ok (.ireturn, 1) := by decide +kernel
set_option maxRecDepth 20000 in
theorem ggX5_isPair_X5_isOperator : GoodIn wsX5_isPair wsX5_isOperator := goodIn_r _ [5, 6, 7, 4, 8] (by decide +kernel) (by decide +kernel)
set_option maxRecDepth 20000 in
theorem gX5_isPair_X5_isOperator : GoodIn wsX5_isPair (va_wsS RX5 82 yX5_isOperator wsX5_isOperator) := goodIn_app (goodIn_of _ (by decide +kernel)) ggX5_isPair_X5_isOperator
theorem dX5_isPair_0 : decode cX5_isPair 0 = .ok (.aload_n 0, 1) := by decide +kernel
theorem dX5_isPair_1 : decode cX5_isPair 1 = .ok (.iload_n 1, 1) := by decide +kernel
theorem dX5_isPair_2 : decode cX5_isPair 2 = .ok (.invokestatic 82, 3) := by decide +kernel
theorem dX5_isPair_5 : decode cX5_isPair 5 = .ok (.ifCond .eq 10, 3) := by decide +kernel
theorem dX5_isPair_8 : decode cX5_isPair 8 = .ok (.iload_n 2, 1) := by decide +kernel
theorem dX5_isPair_9 : decode cX5_isPair 9 = .ok (.invokestatic 82, 3) := by decide +kernel
theorem dX5_isPair_12 : decode cX5_isPair 12 = .ok (.ifCond .ne 7, 3) := by decide +kernel
theorem dX5_isPair_15 : decode cX5_isPair 15 = .ok (.iconst 1, 1) := by decide +kernel
theorem dX5_isPair_16 : decode cX5_isPair 16 = .ok (.goto 17, 3) := by decide +kernel
theorem dX5_isPair_19 : decode cX5_isPair 19 = .ok (.iload_n 1, 1) := by decide +kernel
theorem dX5_isPair_20 : decode cX5_isPair 20 = .ok (.iload_n 2, 1) := by decide +kernel
theorem dX5_isPair_21 : decode cX5_isPair 21 = .ok (.if_icmp .eq 7, 3) := by decide +kernel
theorem dX5_isPair_24 : decode cX5_isPair 24 = .ok (.iload_n 3, 1) := by decide +kernel
theorem dX5_isPair_25 : decode cX5_isPair 25 = .ok (.ifCond .ne 7, 3) := by decide +kernel
theorem dX5_isPair_28 : decode cX5_isPair 28 = .ok (.iconst 2, 1) := by decide +kernel
theorem dX5_isPair_29 : decode cX5_isPair 29 = .ok (.goto 4, 3) := by decide +kernel
theorem dX5_isPair_32 : decode cX5_isPair 32 = .ok (.iconst 0, 1) := by decide +kernel
theorem dX5_isPair_33 : decode cX5_isPair 33 = .ok (.putfield 74, 3) := by decide +kernel
theorem dX5_isPair_36 : decode cX5_isPair 36 = .ok (.aload_n 0, 1) := by decide +kernel
theorem dX5_isPair_37 : decode cX5_isPair 37 = .ok (.getfield 74, 3) := by decide +kernel
theorem dX5_isPair_40 : decode cX5_isPair 40 = .ok (.ifCond .ne 7, 3) := by decide +kernel
theorem dX5_isPair_43 : decode cX5_isPair 43 = .ok (.iconst 1, 1) := by decide +kernel
theorem dX5_isPair_44 : decode cX5_isPair 44 = .ok (.goto 4, 3) := by decide +kernel
theorem dX5_isPair_47 : decode cX5_isPair 47 = .ok (.iconst 0, 1) := by decide +kernel
theorem dX5_isPair_48 : decode cX5_isPair 48 = .ok (.ireturn, 1) := by decide +kernel
set_option maxRecDepth 20000 in
theorem ggX5_isFile_X5_in : GoodIn wsX5_isFile wsX5_in := goodIn_r _ [5] (by decide +kernel) (by decide +kernel)
set_option maxRecDepth 20000 in
theorem gX5_isFile_X5_in : GoodIn wsX5_isFile (va_wsS RX5 78 yX5_in wsX5_in) := goodIn_app (goodIn_of _ (by decide +kernel)) ggX5_isFile_X5_in
theorem dX5_isFile_0 : decode cX5_isFile 0 = .ok (.iload_n 1, 1) := by decide +kernel
theorem dX5_isFile_1 : decode cX5_isFile 1 = .ok (.iconst 0, 1) := by decide +kernel
theorem dX5_isFile_2 : decode cX5_isFile 2 = .ok (.aload_n 0, 1) := by decide +kernel
theorem dX5_isFile_3 : decode cX5_isFile 3 = .ok (.getfield 86, 3) := by decide +kernel
theorem dX5_isFile_6 : decode cX5_isFile 6 = .ok (.iconst 1, 1) := by decide +kernel
theorem dX5_isFile_7 : decode cX5_isFile 7 = .ok (.isub, 1) := by decide +kernel
theorem dX5_isFile_8 : decode cX5_isFile 8 = .ok (.invokestatic 78, 3) := by decide +kernel
theorem dX5_isFile_11 : decode cX5_isFile 11 = .ok (.ireturn, 1) := by decide +kernel
set_option maxRecDepth 20000 in
theorem ggX5_isCall_X5_in : GoodIn wsX5_isCall wsX5_in := goodIn_r _ [5] (by decide +kernel) (by decide +kernel)
set_option maxRecDepth 20000 in
theorem gX5_isCall_X5_in : GoodIn wsX5_isCall (va_wsS RX5 78 yX5_in wsX5_in) := goodIn_app (goodIn_of _ (by decide +kernel)) ggX5_isCall_X5_in
theorem dX5_isCall_0 : decode cX5_isCall 0 = .ok (.iload_n 1, 1) := by decide +kernel
theorem dX5_isCall_1 : decode cX5_isCall 1 = .ok (.iconst 0, 1) := by decide +kernel
theorem dX5_isCall_2 : decode cX5_isCall 2 = .ok (.aload_n 0, 1) := by decide +kernel
theorem dX5_isCall_3 : decode cX5_isCall 3 = .ok (.getfield 89, 3) := by decide +kernel
theorem dX5_isCall_6 : decode cX5_isCall 6 = .ok (.iconst 1, 1) := by decide +kernel
theorem dX5_isCall_7 : decode cX5_isCall 7 = .ok (.isub, 1) := by decide +kernel
theorem dX5_isCall_8 : decode cX5_isCall 8 = .ok (.invokestatic 78, 3) := by decide +kernel
theorem dX5_isCall_11 : decode cX5_isCall 11 = .ok (.ireturn, 1) := by decide +kernel
set_option maxRecDepth 20000 in
theorem ggX5_setTariff_X5_isOperator : GoodIn wsX5_setTariff wsX5_isOperator := goodIn_r _ [8, 9, 10, 7, 11] (by decide +kernel) (by decide +kernel)
set_option maxRecDepth 20000 in
theorem gX5_setTariff_X5_isOperator : GoodIn wsX5_setTariff (va_wsS RX5 82 yX5_isOperator wsX5_isOperator) := goodIn_app (goodIn_of _ (by decide +kernel)) ggX5_setTariff_X5_isOperator
set_option maxRecDepth 20000 in
theorem ggX5_setTariff_X5_in : GoodIn wsX5_setTariff wsX5_in := goodIn_r _ [11] (by decide +kernel) (by decide +kernel)
set_option maxRecDepth 20000 in
theorem gX5_setTariff_X5_in : GoodIn wsX5_setTariff (va_wsS RX5 78 yX5_in wsX5_in) := goodIn_app (goodIn_of _ (by decide +kernel)) ggX5_setTariff_X5_in
theorem dX5_setTariff_0 : decode cX5_setTariff 0 = .ok (.aload_n 0, 1) := by decide +kernel
theorem dX5_setTariff_1 : decode cX5_setTariff 1 = .ok (.iload_n 1, 1) := by decide +kernel
theorem dX5_setTariff_2 : decode cX5_setTariff 2 = .ok (.invokestatic 82, 3) := by decide +kernel
theorem dX5_setTariff_5 : decode cX5_setTariff 5 = .ok (.ifCond .ne 7, 3) := by decide +kernel
theorem dX5_setTariff_8 : decode cX5_setTariff 8 = .ok (.iconst 1, 1) := by decide +kernel
theorem dX5_setTariff_9 : decode cX5_setTariff 9 = .ok (.goto 42, 3) := by decide +kernel
theorem dX5_setTariff_12 : decode cX5_setTariff 12 = .ok (.iload_n 2, 1) := by decide +kernel
theorem dX5_setTariff_13 : decode cX5_setTariff 13 = .ok (.iconst 1, 1) := by decide +kernel
theorem dX5_setTariff_14 : decode cX5_setTariff 14 = .ok (.sipush 600, 3) := by decide +kernel
theorem dX5_setTariff_17 : decode cX5_setTariff 17 = .ok (.invokestatic 78, 3) := by decide +kernel
theorem dX5_setTariff_20 : decode cX5_setTariff 20 = .ok (.ifCond .eq 26, 3) := by decide +kernel
theorem dX5_setTariff_23 : decode cX5_setTariff 23 = .ok (.iload_n 3, 1) := by decide +kernel
theorem dX5_setTariff_24 : decode cX5_setTariff 24 = .ok (.iconst 0, 1) := by decide +kernel
theorem dX5_setTariff_25 : decode cX5_setTariff 25 = .ok (.sipush 1000, 3) := by decide +kernel
theorem dX5_setTariff_28 : decode cX5_setTariff 28 = .ok (.invokestatic 78, 3) := by decide +kernel
theorem dX5_setTariff_31 : decode cX5_setTariff 31 = .ok (.ifCond .eq 15, 3) := by decide +kernel
theorem dX5_setTariff_34 : decode cX5_setTariff 34 = .ok (.iload 4, 2) := by decide +kernel
theorem dX5_setTariff_36 : decode cX5_setTariff 36 = .ok (.iconst 0, 1) := by decide +kernel
theorem dX5_setTariff_37 : decode cX5_setTariff 37 = .ok (.sipush 1000, 3) := by decide +kernel
theorem dX5_setTariff_40 : decode cX5_setTariff 40 = .ok (.invokestatic 78, 3) := by decide +kernel
theorem dX5_setTariff_43 : decode cX5_setTariff 43 = .ok (.ifCond .ne 7, 3) := by decide +kernel
theorem dX5_setTariff_46 : decode cX5_setTariff 46 = .ok (.iconst 2, 1) := by decide +kernel
theorem dX5_setTariff_47 : decode cX5_setTariff 47 = .ok (.goto 4, 3) := by decide +kernel
theorem dX5_setTariff_50 : decode cX5_setTariff 50 = .ok (.iconst 0, 1) := by decide +kernel
theorem dX5_setTariff_51 : decode cX5_setTariff 51 = .ok (.putfield 74, 3) := by decide +kernel
theorem dX5_setTariff_54 : decode cX5_setTariff 54 = .ok (.aload_n 0, 1) := by decide +kernel
theorem dX5_setTariff_55 : decode cX5_setTariff 55 = .ok (.getfield 74, 3) := by decide +kernel
theorem dX5_setTariff_58 : decode cX5_setTariff 58 = .ok (.ifCond .le 5, 3) := by decide +kernel
theorem dX5_setTariff_61 : decode cX5_setTariff 61 = .ok (.iconst 0, 1) := by decide +kernel
theorem dX5_setTariff_62 : decode cX5_setTariff 62 = .ok (.ireturn, 1) := by decide +kernel
theorem dX5_setTariff_63 : decode cX5_setTariff 63 = .ok (.aload_n 0, 1) := by decide +kernel
theorem dX5_setTariff_64 : decode cX5_setTariff 64 = .ok (.getfield 13, 3) := by decide +kernel
theorem dX5_setTariff_67 : decode cX5_setTariff 67 = .ok (.iload_n 1, 1) := by decide +kernel
theorem dX5_setTariff_68 : decode cX5_setTariff 68 = .ok (.iaload, 1) := by decide +kernel
theorem dX5_setTariff_69 : decode cX5_setTariff 69 = .ok (.istore 5, 2) := by decide +kernel
theorem dX5_setTariff_71 : decode cX5_setTariff 71 = .ok (.aload_n 0, 1) := by decide +kernel
theorem dX5_setTariff_72 : decode cX5_setTariff 72 = .ok (.getfield 7, 3) := by decide +kernel
theorem dX5_setTariff_75 : decode cX5_setTariff 75 = .ok (.iload_n 1, 1) := by decide +kernel
theorem dX5_setTariff_76 : decode cX5_setTariff 76 = .ok (.iload_n 2, 1) := by decide +kernel
theorem dX5_setTariff_77 : decode cX5_setTariff 77 = .ok (.iastore, 1) := by decide +kernel
theorem dX5_setTariff_78 : decode cX5_setTariff 78 = .ok (.aload_n 0, 1) := by decide +kernel
theorem dX5_setTariff_79 : decode cX5_setTariff 79 = .ok (.getfield 13, 3) := by decide +kernel
theorem dX5_setTariff_82 : decode cX5_setTariff 82 = .ok (.iload_n 1, 1) := by decide +kernel
theorem dX5_setTariff_83 : decode cX5_setTariff 83 = .ok (.iload_n 3, 1) := by decide +kernel
theorem dX5_setTariff_84 : decode cX5_setTariff 84 = .ok (.iastore, 1) := by decide +kernel
theorem dX5_setTariff_85 : decode cX5_setTariff 85 = .ok (.aload_n 0, 1) := by decide +kernel
theorem dX5_setTariff_86 : decode cX5_setTariff 86 = .ok (.getfield 16, 3) := by decide +kernel
theorem dX5_setTariff_89 : decode cX5_setTariff 89 = .ok (.iload_n 1, 1) := by decide +kernel
theorem dX5_setTariff_90 : decode cX5_setTariff 90 = .ok (.iload 4, 2) := by decide +kernel
theorem dX5_setTariff_92 : decode cX5_setTariff 92 = .ok (.iastore, 1) := by decide +kernel
theorem dX5_setTariff_93 : decode cX5_setTariff 93 = .ok (.iload 5, 2) := by decide +kernel
theorem dX5_setTariff_95 : decode cX5_setTariff 95 = .ok (.ireturn, 1) := by decide +kernel
theorem dX5_chargeFor_0 : decode cX5_chargeFor 0 = .ok (.aload_n 0, 1) := by decide +kernel
theorem dX5_chargeFor_1 : decode cX5_chargeFor 1 = .ok (.getfield 16, 3) := by decide +kernel
theorem dX5_chargeFor_4 : decode cX5_chargeFor 4 = .ok (.iload_n 1, 1) := by decide +kernel
theorem dX5_chargeFor_5 : decode cX5_chargeFor 5 = .ok (.iaload, 1) := by decide +kernel
theorem dX5_chargeFor_6 : decode cX5_chargeFor 6 = .ok (.aload_n 0, 1) := by decide +kernel
theorem dX5_chargeFor_7 : decode cX5_chargeFor 7 = .ok (.getfield 13, 3) := by decide +kernel
theorem dX5_chargeFor_10 : decode cX5_chargeFor 10 = .ok (.iload_n 1, 1) := by decide +kernel
theorem dX5_chargeFor_11 : decode cX5_chargeFor 11 = .ok (.iaload, 1) := by decide +kernel
theorem dX5_chargeFor_12 : decode cX5_chargeFor 12 = .ok (.iload_n 2, 1) := by decide +kernel
theorem dX5_chargeFor_13 : decode cX5_chargeFor 13 = .ok (.aload_n 0, 1) := by decide +kernel
theorem dX5_chargeFor_14 : decode cX5_chargeFor 14 = .ok (.getfield 7, 3) := by decide +kernel
theorem dX5_chargeFor_17 : decode cX5_chargeFor 17 = .ok (.iload_n 1, 1) := by decide +kernel
theorem dX5_chargeFor_18 : decode cX5_chargeFor 18 = .ok (.iaload, 1) := by decide +kernel
theorem dX5_chargeFor_19 : decode cX5_chargeFor 19 = .ok (.iadd, 1) := by decide +kernel
theorem dX5_chargeFor_20 : decode cX5_chargeFor 20 = .ok (.iconst 1, 1) := by decide +kernel
theorem dX5_chargeFor_21 : decode cX5_chargeFor 21 = .ok (.isub, 1) := by decide +kernel
theorem dX5_chargeFor_22 : decode cX5_chargeFor 22 = .ok (.aload_n 0, 1) := by decide +kernel
theorem dX5_chargeFor_23 : decode cX5_chargeFor 23 = .ok (.getfield 7, 3) := by decide +kernel
theorem dX5_chargeFor_26 : decode cX5_chargeFor 26 = .ok (.iload_n 1, 1) := by decide +kernel
theorem dX5_chargeFor_27 : decode cX5_chargeFor 27 = .ok (.iaload, 1) := by decide +kernel
theorem dX5_chargeFor_28 : decode cX5_chargeFor 28 = .ok (.idiv, 1) := by decide +kernel
theorem dX5_chargeFor_29 : decode cX5_chargeFor 29 = .ok (.imul, 1) := by decide +kernel
theorem dX5_chargeFor_30 : decode cX5_chargeFor 30 = .ok (.iadd, 1) := by decide +kernel
theorem dX5_chargeFor_31 : decode cX5_chargeFor 31 = .ok (.ireturn, 1) := by decide +kernel
set_option maxRecDepth 20000 in
theorem ggX5_charge_X5_isOperator : GoodIn wsX5_charge wsX5_isOperator := goodIn_r _ [6, 7, 8, 5, 9] (by decide +kernel) (by decide +kernel)
set_option maxRecDepth 20000 in
theorem gX5_charge_X5_isOperator : GoodIn wsX5_charge (va_wsS RX5 82 yX5_isOperator wsX5_isOperator) := goodIn_app (goodIn_of _ (by decide +kernel)) ggX5_charge_X5_isOperator
set_option maxRecDepth 20000 in
theorem ggX5_charge_X5_in : GoodIn wsX5_charge wsX5_in := goodIn_r _ [9] (by decide +kernel) (by decide +kernel)
set_option maxRecDepth 20000 in
theorem gX5_charge_X5_in : GoodIn wsX5_charge (va_wsS RX5 78 yX5_in wsX5_in) := goodIn_app (goodIn_of _ (by decide +kernel)) ggX5_charge_X5_in
set_option maxRecDepth 20000 in
theorem ggX5_charge_X5_chargeFor : GoodIn wsX5_charge wsX5_chargeFor := goodIn_r _ [13, 14, 15, 16, 17, 18, 19, 20, 21, 22, 23, 24, 25, 26, 27, 28, 29, 30, 31, 32, 33, 34, 35, 36, 37, 38, 39, 40, 41, 42] (by decide +kernel) (by decide +kernel)
set_option maxRecDepth 20000 in
theorem gX5_charge_X5_chargeFor : GoodIn wsX5_charge (wsV RX5 93 RX5 yX5_chargeFor wsX5_chargeFor) := goodIn_app (goodIn_of _ (by decide +kernel)) ggX5_charge_X5_chargeFor
theorem dX5_charge_0 : decode cX5_charge 0 = .ok (.aload_n 0, 1) := by decide +kernel
theorem dX5_charge_1 : decode cX5_charge 1 = .ok (.iload_n 1, 1) := by decide +kernel
theorem dX5_charge_2 : decode cX5_charge 2 = .ok (.invokestatic 82, 3) := by decide +kernel
theorem dX5_charge_5 : decode cX5_charge 5 = .ok (.ifCond .ne 7, 3) := by decide +kernel
theorem dX5_charge_8 : decode cX5_charge 8 = .ok (.iconst 1, 1) := by decide +kernel
theorem dX5_charge_9 : decode cX5_charge 9 = .ok (.goto 18, 3) := by decide +kernel
theorem dX5_charge_12 : decode cX5_charge 12 = .ok (.iload_n 2, 1) := by decide +kernel
theorem dX5_charge_13 : decode cX5_charge 13 = .ok (.iconst 1, 1) := by decide +kernel
theorem dX5_charge_14 : decode cX5_charge 14 = .ok (.ldc 92, 2) := by decide +kernel
theorem dX5_charge_16 : decode cX5_charge 16 = .ok (.invokestatic 78, 3) := by decide +kernel
theorem dX5_charge_19 : decode cX5_charge 19 = .ok (.ifCond .ne 7, 3) := by decide +kernel
theorem dX5_charge_22 : decode cX5_charge 22 = .ok (.iconst 2, 1) := by decide +kernel
theorem dX5_charge_23 : decode cX5_charge 23 = .ok (.goto 4, 3) := by decide +kernel
theorem dX5_charge_26 : decode cX5_charge 26 = .ok (.iconst 0, 1) := by decide +kernel
theorem dX5_charge_27 : decode cX5_charge 27 = .ok (.putfield 74, 3) := by decide +kernel
theorem dX5_charge_30 : decode cX5_charge 30 = .ok (.aload_n 0, 1) := by decide +kernel
theorem dX5_charge_31 : decode cX5_charge 31 = .ok (.getfield 74, 3) := by decide +kernel
theorem dX5_charge_34 : decode cX5_charge 34 = .ok (.ifCond .ne 12, 3) := by decide +kernel
theorem dX5_charge_37 : decode cX5_charge 37 = .ok (.aload_n 0, 1) := by decide +kernel
theorem dX5_charge_38 : decode cX5_charge 38 = .ok (.iload_n 1, 1) := by decide +kernel
theorem dX5_charge_39 : decode cX5_charge 39 = .ok (.iload_n 2, 1) := by decide +kernel
theorem dX5_charge_40 : decode cX5_charge 40 = .ok (.invokevirtual 93, 3) := by decide +kernel
theorem dX5_charge_43 : decode cX5_charge 43 = .ok (.goto 4, 3) := by decide +kernel
theorem dX5_charge_46 : decode cX5_charge 46 = .ok (.iconst 0, 1) := by decide +kernel
theorem dX5_charge_47 : decode cX5_charge 47 = .ok (.ireturn, 1) := by decide +kernel
set_option maxRecDepth 20000 in
theorem ggX5_begin_X5_isPair : GoodIn wsX5_begin wsX5_isPair := goodIn_r _ [11, 2, 12, 13, 10, 14, 15, 16, 17, 18, 19, 20, 21, 22, 23, 24, 25, 26, 27, 28, 29, 30, 31, 32, 33, 34, 35, 36, 37, 38, 39, 40, 41, 42, 43] (by decide +kernel) (by decide +kernel)
set_option maxRecDepth 20000 in
theorem gX5_begin_X5_isPair : GoodIn wsX5_begin (wsV RX5 97 RX5 yX5_isPair wsX5_isPair) := goodIn_app (goodIn_of _ (by decide +kernel)) ggX5_begin_X5_isPair
theorem dX5_begin_0 : decode cX5_begin 0 = .ok (.aload_n 0, 1) := by decide +kernel
theorem dX5_begin_1 : decode cX5_begin 1 = .ok (.iload_n 1, 1) := by decide +kernel
theorem dX5_begin_2 : decode cX5_begin 2 = .ok (.iload_n 2, 1) := by decide +kernel
theorem dX5_begin_3 : decode cX5_begin 3 = .ok (.iconst 1, 1) := by decide +kernel
theorem dX5_begin_4 : decode cX5_begin 4 = .ok (.invokevirtual 97, 3) := by decide +kernel
theorem dX5_begin_7 : decode cX5_begin 7 = .ok (.ifCond .eq 21, 3) := by decide +kernel
theorem dX5_begin_10 : decode cX5_begin 10 = .ok (.aload_n 0, 1) := by decide +kernel
theorem dX5_begin_11 : decode cX5_begin 11 = .ok (.aload_n 0, 1) := by decide +kernel
theorem dX5_begin_12 : decode cX5_begin 12 = .ok (.getfield 86, 3) := by decide +kernel
theorem dX5_begin_15 : decode cX5_begin 15 = .ok (.bipush 30, 2) := by decide +kernel
theorem dX5_begin_17 : decode cX5_begin 17 = .ok (.if_icmp .ne 7, 3) := by decide +kernel
theorem dX5_begin_20 : decode cX5_begin 20 = .ok (.iconst 3, 1) := by decide +kernel
theorem dX5_begin_21 : decode cX5_begin 21 = .ok (.goto 4, 3) := by decide +kernel
theorem dX5_begin_24 : decode cX5_begin 24 = .ok (.iconst 0, 1) := by decide +kernel
theorem dX5_begin_25 : decode cX5_begin 25 = .ok (.putfield 74, 3) := by decide +kernel
theorem dX5_begin_28 : decode cX5_begin 28 = .ok (.aload_n 0, 1) := by decide +kernel
theorem dX5_begin_29 : decode cX5_begin 29 = .ok (.getfield 74, 3) := by decide +kernel
theorem dX5_begin_32 : decode cX5_begin 32 = .ok (.ifCond .le 5, 3) := by decide +kernel
theorem dX5_begin_35 : decode cX5_begin 35 = .ok (.iconst 0, 1) := by decide +kernel
theorem dX5_begin_36 : decode cX5_begin 36 = .ok (.ireturn, 1) := by decide +kernel
theorem dX5_begin_37 : decode cX5_begin 37 = .ok (.aload_n 0, 1) := by decide +kernel
theorem dX5_begin_38 : decode cX5_begin 38 = .ok (.getfield 22, 3) := by decide +kernel
theorem dX5_begin_41 : decode cX5_begin 41 = .ok (.aload_n 0, 1) := by decide +kernel
theorem dX5_begin_42 : decode cX5_begin 42 = .ok (.getfield 86, 3) := by decide +kernel
theorem dX5_begin_45 : decode cX5_begin 45 = .ok (.iconst 4, 1) := by decide +kernel
theorem dX5_begin_46 : decode cX5_begin 46 = .ok (.iload_n 1, 1) := by decide +kernel
theorem dX5_begin_47 : decode cX5_begin 47 = .ok (.imul, 1) := by decide +kernel
theorem dX5_begin_48 : decode cX5_begin 48 = .ok (.iload_n 2, 1) := by decide +kernel
theorem dX5_begin_49 : decode cX5_begin 49 = .ok (.iadd, 1) := by decide +kernel
theorem dX5_begin_50 : decode cX5_begin 50 = .ok (.iastore, 1) := by decide +kernel
theorem dX5_begin_51 : decode cX5_begin 51 = .ok (.aload_n 0, 1) := by decide +kernel
theorem dX5_begin_52 : decode cX5_begin 52 = .ok (.getfield 25, 3) := by decide +kernel
theorem dX5_begin_55 : decode cX5_begin 55 = .ok (.aload_n 0, 1) := by decide +kernel
theorem dX5_begin_56 : decode cX5_begin 56 = .ok (.getfield 86, 3) := by decide +kernel
theorem dX5_begin_59 : decode cX5_begin 59 = .ok (.aload_n 0, 1) := by decide +kernel
theorem dX5_begin_60 : decode cX5_begin 60 = .ok (.getfield 101, 3) := by decide +kernel
theorem dX5_begin_63 : decode cX5_begin 63 = .ok (.iastore, 1) := by decide +kernel
theorem dX5_begin_64 : decode cX5_begin 64 = .ok (.aload_n 0, 1) := by decide +kernel
theorem dX5_begin_65 : decode cX5_begin 65 = .ok (.getfield 28, 3) := by decide +kernel
theorem dX5_begin_68 : decode cX5_begin 68 = .ok (.aload_n 0, 1) := by decide +kernel
theorem dX5_begin_69 : decode cX5_begin 69 = .ok (.getfield 86, 3) := by decide +kernel
theorem dX5_begin_72 : decode cX5_begin 72 = .ok (.iconst 0, 1) := by decide +kernel
theorem dX5_begin_73 : decode cX5_begin 73 = .ok (.iastore, 1) := by decide +kernel
theorem dX5_begin_74 : decode cX5_begin 74 = .ok (.aload_n 0, 1) := by decide +kernel
theorem dX5_begin_75 : decode cX5_begin 75 = .ok (.dup, 1) := by decide +kernel
theorem dX5_begin_76 : decode cX5_begin 76 = .ok (.getfield 86, 3) := by decide +kernel
theorem dX5_begin_79 : decode cX5_begin 79 = .ok (.iconst 1, 1) := by decide +kernel
theorem dX5_begin_80 : decode cX5_begin 80 = .ok (.iadd, 1) := by decide +kernel
theorem dX5_begin_81 : decode cX5_begin 81 = .ok (.putfield 86, 3) := by decide +kernel
theorem dX5_begin_84 : decode cX5_begin 84 = .ok (.aload_n 0, 1) := by decide +kernel
theorem dX5_begin_85 : decode cX5_begin 85 = .ok (.getfield 86, 3) := by decide +kernel
theorem dX5_begin_88 : decode cX5_begin 88 = .ok (.iconst 1, 1) := by decide +kernel
theorem dX5_begin_89 : decode cX5_begin 89 = .ok (.isub, 1) := by decide +kernel
theorem dX5_begin_90 : decode cX5_begin 90 = .ok (.ireturn, 1) := by decide +kernel
set_option maxRecDepth 20000 in
theorem ggX5_enter_X5_isFile : GoodIn wsX5_enter wsX5_isFile := goodIn_r _ [14, 15, 16, 17, 13, 18, 19, 20, 21, 22, 23, 24, 25, 26, 27, 28, 29, 30, 31, 32, 33, 34, 35, 36, 37, 38, 39, 40, 41, 42, 43, 44] (by decide +kernel) (by decide +kernel)
set_option maxRecDepth 20000 in
theorem gX5_enter_X5_isFile : GoodIn wsX5_enter (wsV RX5 104 RX5 yX5_isFile wsX5_isFile) := goodIn_app (goodIn_of _ (by decide +kernel)) ggX5_enter_X5_isFile
set_option maxRecDepth 20000 in
theorem ggX5_enter_X5_in : GoodIn wsX5_enter wsX5_in := goodIn_r _ [18] (by decide +kernel) (by decide +kernel)
set_option maxRecDepth 20000 in
theorem gX5_enter_X5_in : GoodIn wsX5_enter (va_wsS RX5 78 yX5_in wsX5_in) := goodIn_app (goodIn_of _ (by decide +kernel)) ggX5_enter_X5_in
theorem dX5_enter_0 : decode cX5_enter 0 = .ok (.aload_n 0, 1) := by decide +kernel
theorem dX5_enter_1 : decode cX5_enter 1 = .ok (.aload_n 0, 1) := by decide +kernel
theorem dX5_enter_2 : decode cX5_enter 2 = .ok (.iload_n 1, 1) := by decide +kernel
theorem dX5_enter_3 : decode cX5_enter 3 = .ok (.invokevirtual 104, 3) := by decide +kernel
theorem dX5_enter_6 : decode cX5_enter 6 = .ok (.ifCond .ne 7, 3) := by decide +kernel
theorem dX5_enter_9 : decode cX5_enter 9 = .ok (.iconst 1, 1) := by decide +kernel
theorem dX5_enter_10 : decode cX5_enter 10 = .ok (.goto 50, 3) := by decide +kernel
theorem dX5_enter_13 : decode cX5_enter 13 = .ok (.iload_n 2, 1) := by decide +kernel
theorem dX5_enter_14 : decode cX5_enter 14 = .ok (.iconst 1, 1) := by decide +kernel
theorem dX5_enter_15 : decode cX5_enter 15 = .ok (.ldc 92, 2) := by decide +kernel
theorem dX5_enter_17 : decode cX5_enter 17 = .ok (.invokestatic 78, 3) := by decide +kernel
theorem dX5_enter_20 : decode cX5_enter 20 = .ok (.ifCond .eq 13, 3) := by decide +kernel
theorem dX5_enter_23 : decode cX5_enter 23 = .ok (.iload_n 3, 1) := by decide +kernel
theorem dX5_enter_24 : decode cX5_enter 24 = .ok (.iconst 0, 1) := by decide +kernel
theorem dX5_enter_25 : decode cX5_enter 25 = .ok (.ldc 107, 2) := by decide +kernel
theorem dX5_enter_27 : decode cX5_enter 27 = .ok (.invokestatic 78, 3) := by decide +kernel
theorem dX5_enter_30 : decode cX5_enter 30 = .ok (.ifCond .ne 7, 3) := by decide +kernel
theorem dX5_enter_33 : decode cX5_enter 33 = .ok (.iconst 2, 1) := by decide +kernel
theorem dX5_enter_34 : decode cX5_enter 34 = .ok (.goto 26, 3) := by decide +kernel
theorem dX5_enter_37 : decode cX5_enter 37 = .ok (.aload_n 0, 1) := by decide +kernel
theorem dX5_enter_38 : decode cX5_enter 38 = .ok (.getfield 28, 3) := by decide +kernel
theorem dX5_enter_41 : decode cX5_enter 41 = .ok (.iload_n 1, 1) := by decide +kernel
theorem dX5_enter_42 : decode cX5_enter 42 = .ok (.iaload, 1) := by decide +kernel
theorem dX5_enter_43 : decode cX5_enter 43 = .ok (.ifCond .ne 12, 3) := by decide +kernel
theorem dX5_enter_46 : decode cX5_enter 46 = .ok (.aload_n 0, 1) := by decide +kernel
theorem dX5_enter_47 : decode cX5_enter 47 = .ok (.getfield 89, 3) := by decide +kernel
theorem dX5_enter_50 : decode cX5_enter 50 = .ok (.bipush 60, 2) := by decide +kernel
theorem dX5_enter_52 : decode cX5_enter 52 = .ok (.if_icmp .ne 7, 3) := by decide +kernel
theorem dX5_enter_55 : decode cX5_enter 55 = .ok (.iconst 3, 1) := by decide +kernel
theorem dX5_enter_56 : decode cX5_enter 56 = .ok (.goto 4, 3) := by decide +kernel
theorem dX5_enter_59 : decode cX5_enter 59 = .ok (.iconst 0, 1) := by decide +kernel
theorem dX5_enter_60 : decode cX5_enter 60 = .ok (.putfield 74, 3) := by decide +kernel
theorem dX5_enter_63 : decode cX5_enter 63 = .ok (.aload_n 0, 1) := by decide +kernel
theorem dX5_enter_64 : decode cX5_enter 64 = .ok (.getfield 74, 3) := by decide +kernel
theorem dX5_enter_67 : decode cX5_enter 67 = .ok (.ifCond .le 5, 3) := by decide +kernel
theorem dX5_enter_70 : decode cX5_enter 70 = .ok (.iconst 0, 1) := by decide +kernel
theorem dX5_enter_71 : decode cX5_enter 71 = .ok (.ireturn, 1) := by decide +kernel
theorem dX5_enter_72 : decode cX5_enter 72 = .ok (.aload_n 0, 1) := by decide +kernel
theorem dX5_enter_73 : decode cX5_enter 73 = .ok (.getfield 34, 3) := by decide +kernel
theorem dX5_enter_76 : decode cX5_enter 76 = .ok (.aload_n 0, 1) := by decide +kernel
theorem dX5_enter_77 : decode cX5_enter 77 = .ok (.getfield 89, 3) := by decide +kernel
theorem dX5_enter_80 : decode cX5_enter 80 = .ok (.iload_n 1, 1) := by decide +kernel
theorem dX5_enter_81 : decode cX5_enter 81 = .ok (.iastore, 1) := by decide +kernel
theorem dX5_enter_82 : decode cX5_enter 82 = .ok (.aload_n 0, 1) := by decide +kernel
theorem dX5_enter_83 : decode cX5_enter 83 = .ok (.getfield 37, 3) := by decide +kernel
theorem dX5_enter_86 : decode cX5_enter 86 = .ok (.aload_n 0, 1) := by decide +kernel
theorem dX5_enter_87 : decode cX5_enter 87 = .ok (.getfield 89, 3) := by decide +kernel
theorem dX5_enter_90 : decode cX5_enter 90 = .ok (.iload_n 2, 1) := by decide +kernel
theorem dX5_enter_91 : decode cX5_enter 91 = .ok (.iastore, 1) := by decide +kernel
theorem dX5_enter_92 : decode cX5_enter 92 = .ok (.aload_n 0, 1) := by decide +kernel
theorem dX5_enter_93 : decode cX5_enter 93 = .ok (.getfield 40, 3) := by decide +kernel
theorem dX5_enter_96 : decode cX5_enter 96 = .ok (.aload_n 0, 1) := by decide +kernel
theorem dX5_enter_97 : decode cX5_enter 97 = .ok (.getfield 89, 3) := by decide +kernel
theorem dX5_enter_100 : decode cX5_enter 100 = .ok (.iload_n 3, 1) := by decide +kernel
theorem dX5_enter_101 : decode cX5_enter 101 = .ok (.iastore, 1) := by decide +kernel
theorem dX5_enter_102 : decode cX5_enter 102 = .ok (.aload_n 0, 1) := by decide +kernel
theorem dX5_enter_103 : decode cX5_enter 103 = .ok (.getfield 43, 3) := by decide +kernel
theorem dX5_enter_106 : decode cX5_enter 106 = .ok (.aload_n 0, 1) := by decide +kernel
theorem dX5_enter_107 : decode cX5_enter 107 = .ok (.getfield 89, 3) := by decide +kernel
theorem dX5_enter_110 : decode cX5_enter 110 = .ok (.iconst 0, 1) := by decide +kernel
theorem dX5_enter_111 : decode cX5_enter 111 = .ok (.iastore, 1) := by decide +kernel
theorem dX5_enter_112 : decode cX5_enter 112 = .ok (.aload_n 0, 1) := by decide +kernel
theorem dX5_enter_113 : decode cX5_enter 113 = .ok (.dup, 1) := by decide +kernel
theorem dX5_enter_114 : decode cX5_enter 114 = .ok (.getfield 89, 3) := by decide +kernel
theorem dX5_enter_117 : decode cX5_enter 117 = .ok (.iconst 1, 1) := by decide +kernel
theorem dX5_enter_118 : decode cX5_enter 118 = .ok (.iadd, 1) := by decide +kernel
theorem dX5_enter_119 : decode cX5_enter 119 = .ok (.putfield 89, 3) := by decide +kernel
theorem dX5_enter_122 : decode cX5_enter 122 = .ok (.aload_n 0, 1) := by decide +kernel
theorem dX5_enter_123 : decode cX5_enter 123 = .ok (.getfield 89, 3) := by decide +kernel
theorem dX5_enter_126 : decode cX5_enter 126 = .ok (.iconst 1, 1) := by decide +kernel
theorem dX5_enter_127 : decode cX5_enter 127 = .ok (.isub, 1) := by decide +kernel
theorem dX5_enter_128 : decode cX5_enter 128 = .ok (.ireturn, 1) := by decide +kernel
set_option maxRecDepth 20000 in
theorem ggX5_isRight_X5_chargeFor : GoodIn wsX5_isRight wsX5_chargeFor := goodIn_r _ [9, 10, 11, 12, 13, 14, 15, 16, 17, 18, 19, 20, 21, 22, 23, 24, 25, 26, 27, 28, 29, 30, 31, 32, 33, 34, 35, 36, 37, 38] (by decide +kernel) (by decide +kernel)
set_option maxRecDepth 20000 in
theorem gX5_isRight_X5_chargeFor : GoodIn wsX5_isRight (wsV RX5 93 RX5 yX5_chargeFor wsX5_chargeFor) := goodIn_app (goodIn_of _ (by decide +kernel)) ggX5_isRight_X5_chargeFor
theorem dX5_isRight_0 : decode cX5_isRight 0 = .ok (.aload_n 0, 1) := by decide +kernel
theorem dX5_isRight_1 : decode cX5_isRight 1 = .ok (.aload_n 0, 1) := by decide +kernel
theorem dX5_isRight_2 : decode cX5_isRight 2 = .ok (.getfield 22, 3) := by decide +kernel
theorem dX5_isRight_5 : decode cX5_isRight 5 = .ok (.aload_n 0, 1) := by decide +kernel
theorem dX5_isRight_6 : decode cX5_isRight 6 = .ok (.getfield 34, 3) := by decide +kernel
theorem dX5_isRight_9 : decode cX5_isRight 9 = .ok (.iload_n 1, 1) := by decide +kernel
theorem dX5_isRight_10 : decode cX5_isRight 10 = .ok (.iaload, 1) := by decide +kernel
theorem dX5_isRight_11 : decode cX5_isRight 11 = .ok (.iaload, 1) := by decide +kernel
theorem dX5_isRight_12 : decode cX5_isRight 12 = .ok (.iconst 4, 1) := by decide +kernel
theorem dX5_isRight_13 : decode cX5_isRight 13 = .ok (.idiv, 1) := by decide +kernel
theorem dX5_isRight_14 : decode cX5_isRight 14 = .ok (.aload_n 0, 1) := by decide +kernel
theorem dX5_isRight_15 : decode cX5_isRight 15 = .ok (.getfield 37, 3) := by decide +kernel
theorem dX5_isRight_18 : decode cX5_isRight 18 = .ok (.iload_n 1, 1) := by decide +kernel
theorem dX5_isRight_19 : decode cX5_isRight 19 = .ok (.iaload, 1) := by decide +kernel
theorem dX5_isRight_20 : decode cX5_isRight 20 = .ok (.invokevirtual 93, 3) := by decide +kernel
theorem dX5_isRight_23 : decode cX5_isRight 23 = .ok (.aload_n 0, 1) := by decide +kernel
theorem dX5_isRight_24 : decode cX5_isRight 24 = .ok (.getfield 40, 3) := by decide +kernel
theorem dX5_isRight_27 : decode cX5_isRight 27 = .ok (.iload_n 1, 1) := by decide +kernel
theorem dX5_isRight_28 : decode cX5_isRight 28 = .ok (.iaload, 1) := by decide +kernel
theorem dX5_isRight_29 : decode cX5_isRight 29 = .ok (.if_icmp .ne 7, 3) := by decide +kernel
theorem dX5_isRight_32 : decode cX5_isRight 32 = .ok (.iconst 1, 1) := by decide +kernel
theorem dX5_isRight_33 : decode cX5_isRight 33 = .ok (.goto 4, 3) := by decide +kernel
theorem dX5_isRight_36 : decode cX5_isRight 36 = .ok (.iconst 0, 1) := by decide +kernel
theorem dX5_isRight_37 : decode cX5_isRight 37 = .ok (.ireturn, 1) := by decide +kernel
set_option maxRecDepth 20000 in
theorem ggX5_callsOf_X5_isRight : GoodIn wsX5_callsOf wsX5_isRight := goodIn_r _ [7, 8, 2, 9, 10, 11, 12, 13, 6, 14, 15, 16, 17, 18, 19, 20, 21, 22, 23, 24, 25, 26, 27, 28, 29, 30, 31, 32, 33, 34, 35, 36, 37, 38, 39, 40, 41, 42, 43] (by decide +kernel) (by decide +kernel)
set_option maxRecDepth 20000 in
theorem gX5_callsOf_X5_isRight : GoodIn wsX5_callsOf (wsV RX5 108 RX5 yX5_isRight wsX5_isRight) := goodIn_app (goodIn_of _ (by decide +kernel)) ggX5_callsOf_X5_isRight
theorem dX5_callsOf_0 : decode cX5_callsOf 0 = .ok (.iconst 0, 1) := by decide +kernel
theorem dX5_callsOf_1 : decode cX5_callsOf 1 = .ok (.istore_n 3, 1) := by decide +kernel
theorem dX5_callsOf_2 : decode cX5_callsOf 2 = .ok (.iconst 0, 1) := by decide +kernel
theorem dX5_callsOf_3 : decode cX5_callsOf 3 = .ok (.istore 4, 2) := by decide +kernel
theorem dX5_callsOf_5 : decode cX5_callsOf 5 = .ok (.iload 4, 2) := by decide +kernel
theorem dX5_callsOf_7 : decode cX5_callsOf 7 = .ok (.aload_n 0, 1) := by decide +kernel
theorem dX5_callsOf_8 : decode cX5_callsOf 8 = .ok (.getfield 89, 3) := by decide +kernel
theorem dX5_callsOf_11 : decode cX5_callsOf 11 = .ok (.if_icmp .ge 41, 3) := by decide +kernel
theorem dX5_callsOf_14 : decode cX5_callsOf 14 = .ok (.iload_n 3, 1) := by decide +kernel
theorem dX5_callsOf_15 : decode cX5_callsOf 15 = .ok (.aload_n 0, 1) := by decide +kernel
theorem dX5_callsOf_16 : decode cX5_callsOf 16 = .ok (.getfield 34, 3) := by decide +kernel
theorem dX5_callsOf_19 : decode cX5_callsOf 19 = .ok (.iload 4, 2) := by decide +kernel
theorem dX5_callsOf_21 : decode cX5_callsOf 21 = .ok (.iaload, 1) := by decide +kernel
theorem dX5_callsOf_22 : decode cX5_callsOf 22 = .ok (.iload_n 1, 1) := by decide +kernel
theorem dX5_callsOf_23 : decode cX5_callsOf 23 = .ok (.if_icmp .ne 20, 3) := by decide +kernel
theorem dX5_callsOf_26 : decode cX5_callsOf 26 = .ok (.iload_n 2, 1) := by decide +kernel
theorem dX5_callsOf_27 : decode cX5_callsOf 27 = .ok (.ifCond .eq 12, 3) := by decide +kernel
theorem dX5_callsOf_30 : decode cX5_callsOf 30 = .ok (.aload_n 0, 1) := by decide +kernel
theorem dX5_callsOf_31 : decode cX5_callsOf 31 = .ok (.iload 4, 2) := by decide +kernel
theorem dX5_callsOf_33 : decode cX5_callsOf 33 = .ok (.invokevirtual 108, 3) := by decide +kernel
theorem dX5_callsOf_36 : decode cX5_callsOf 36 = .ok (.ifCond .ne 7, 3) := by decide +kernel
theorem dX5_callsOf_39 : decode cX5_callsOf 39 = .ok (.iconst 1, 1) := by decide +kernel
theorem dX5_callsOf_40 : decode cX5_callsOf 40 = .ok (.goto 4, 3) := by decide +kernel
theorem dX5_callsOf_43 : decode cX5_callsOf 43 = .ok (.iconst 0, 1) := by decide +kernel
theorem dX5_callsOf_44 : decode cX5_callsOf 44 = .ok (.iadd, 1) := by decide +kernel
theorem dX5_callsOf_45 : decode cX5_callsOf 45 = .ok (.istore_n 3, 1) := by decide +kernel
theorem dX5_callsOf_46 : decode cX5_callsOf 46 = .ok (.iinc 4 1, 3) := by decide +kernel
theorem dX5_callsOf_49 : decode cX5_callsOf 49 = .ok (.goto (-44), 3) := by decide +kernel
theorem dX5_callsOf_52 : decode cX5_callsOf 52 = .ok (.iload_n 3, 1) := by decide +kernel
theorem dX5_callsOf_53 : decode cX5_callsOf 53 = .ok (.ireturn, 1) := by decide +kernel
set_option maxRecDepth 20000 in
theorem ggX5_lookAt_X5_callsOf : GoodIn wsX5_lookAt wsX5_callsOf := goodIn_r _ [14, 4, 5, 15, 16, 17, 13, 18, 19, 20, 21, 22, 23, 24, 25, 26, 27, 28, 29, 30, 31, 32, 33, 34, 35, 36, 37, 38, 39, 40, 41, 42, 43, 44, 45, 46, 47, 48, 49, 50, 51, 52, 53, 54] (by decide +kernel) (by decide +kernel)
set_option maxRecDepth 20000 in
theorem gX5_lookAt_X5_callsOf : GoodIn wsX5_lookAt (wsV RX5 111 RX5 yX5_callsOf wsX5_callsOf) := goodIn_app (goodIn_of _ (by decide +kernel)) ggX5_lookAt_X5_callsOf
set_option maxRecDepth 20000 in
theorem ggX5_lookAt_X5_isRight : GoodIn wsX5_lookAt wsX5_isRight := goodIn_r _ [18, 19, 5, 20, 21, 22, 23, 24, 13, 25, 26, 27, 28, 29, 30, 31, 32, 33, 34, 35, 36, 37, 38, 39, 40, 41, 42, 43, 44, 45, 46, 47, 48, 49, 50, 51, 52, 53, 54] (by decide +kernel) (by decide +kernel)
set_option maxRecDepth 20000 in
theorem gX5_lookAt_X5_isRight : GoodIn wsX5_lookAt (wsV RX5 108 RX5 yX5_isRight wsX5_isRight) := goodIn_app (goodIn_of _ (by decide +kernel)) ggX5_lookAt_X5_isRight
theorem dX5_lookAt_0 : decode cX5_lookAt 0 = .ok (.aload_n 0, 1) := by decide +kernel
theorem dX5_lookAt_1 : decode cX5_lookAt 1 = .ok (.getfield 101, 3) := by decide +kernel
theorem dX5_lookAt_4 : decode cX5_lookAt 4 = .ok (.aload_n 0, 1) := by decide +kernel
theorem dX5_lookAt_5 : decode cX5_lookAt 5 = .ok (.getfield 25, 3) := by decide +kernel
theorem dX5_lookAt_8 : decode cX5_lookAt 8 = .ok (.iload_n 1, 1) := by decide +kernel
theorem dX5_lookAt_9 : decode cX5_lookAt 9 = .ok (.iaload, 1) := by decide +kernel
theorem dX5_lookAt_10 : decode cX5_lookAt 10 = .ok (.iconst 2, 1) := by decide +kernel
theorem dX5_lookAt_11 : decode cX5_lookAt 11 = .ok (.iadd, 1) := by decide +kernel
theorem dX5_lookAt_12 : decode cX5_lookAt 12 = .ok (.if_icmp .le 13, 3) := by decide +kernel
theorem dX5_lookAt_15 : decode cX5_lookAt 15 = .ok (.aload_n 0, 1) := by decide +kernel
theorem dX5_lookAt_16 : decode cX5_lookAt 16 = .ok (.getfield 28, 3) := by decide +kernel
theorem dX5_lookAt_19 : decode cX5_lookAt 19 = .ok (.iload_n 1, 1) := by decide +kernel
theorem dX5_lookAt_20 : decode cX5_lookAt 20 = .ok (.iconst 3, 1) := by decide +kernel
theorem dX5_lookAt_21 : decode cX5_lookAt 21 = .ok (.iastore, 1) := by decide +kernel
theorem dX5_lookAt_22 : decode cX5_lookAt 22 = .ok (.goto 108, 3) := by decide +kernel
theorem dX5_lookAt_25 : decode cX5_lookAt 25 = .ok (.aload_n 0, 1) := by decide +kernel
theorem dX5_lookAt_26 : decode cX5_lookAt 26 = .ok (.iload_n 1, 1) := by decide +kernel
theorem dX5_lookAt_27 : decode cX5_lookAt 27 = .ok (.iconst 1, 1) := by decide +kernel
theorem dX5_lookAt_28 : decode cX5_lookAt 28 = .ok (.invokevirtual 111, 3) := by decide +kernel
theorem dX5_lookAt_31 : decode cX5_lookAt 31 = .ok (.iconst 3, 1) := by decide +kernel
theorem dX5_lookAt_32 : decode cX5_lookAt 32 = .ok (.imul, 1) := by decide +kernel
theorem dX5_lookAt_33 : decode cX5_lookAt 33 = .ok (.aload_n 0, 1) := by decide +kernel
theorem dX5_lookAt_34 : decode cX5_lookAt 34 = .ok (.iload_n 1, 1) := by decide +kernel
theorem dX5_lookAt_35 : decode cX5_lookAt 35 = .ok (.iconst 0, 1) := by decide +kernel
theorem dX5_lookAt_36 : decode cX5_lookAt 36 = .ok (.invokevirtual 111, 3) := by decide +kernel
theorem dX5_lookAt_39 : decode cX5_lookAt 39 = .ok (.if_icmp .le 13, 3) := by decide +kernel
theorem dX5_lookAt_42 : decode cX5_lookAt 42 = .ok (.aload_n 0, 1) := by decide +kernel
theorem dX5_lookAt_43 : decode cX5_lookAt 43 = .ok (.getfield 28, 3) := by decide +kernel
theorem dX5_lookAt_46 : decode cX5_lookAt 46 = .ok (.iload_n 1, 1) := by decide +kernel
theorem dX5_lookAt_47 : decode cX5_lookAt 47 = .ok (.iconst 4, 1) := by decide +kernel
theorem dX5_lookAt_48 : decode cX5_lookAt 48 = .ok (.iastore, 1) := by decide +kernel
theorem dX5_lookAt_49 : decode cX5_lookAt 49 = .ok (.goto 81, 3) := by decide +kernel
theorem dX5_lookAt_52 : decode cX5_lookAt 52 = .ok (.aload_n 0, 1) := by decide +kernel
theorem dX5_lookAt_53 : decode cX5_lookAt 53 = .ok (.getfield 28, 3) := by decide +kernel
theorem dX5_lookAt_56 : decode cX5_lookAt 56 = .ok (.iload_n 1, 1) := by decide +kernel
theorem dX5_lookAt_57 : decode cX5_lookAt 57 = .ok (.iconst 5, 1) := by decide +kernel
theorem dX5_lookAt_58 : decode cX5_lookAt 58 = .ok (.iastore, 1) := by decide +kernel
theorem dX5_lookAt_59 : decode cX5_lookAt 59 = .ok (.iconst 0, 1) := by decide +kernel
theorem dX5_lookAt_60 : decode cX5_lookAt 60 = .ok (.istore_n 2, 1) := by decide +kernel
theorem dX5_lookAt_61 : decode cX5_lookAt 61 = .ok (.iload_n 2, 1) := by decide +kernel
theorem dX5_lookAt_62 : decode cX5_lookAt 62 = .ok (.aload_n 0, 1) := by decide +kernel
theorem dX5_lookAt_63 : decode cX5_lookAt 63 = .ok (.getfield 89, 3) := by decide +kernel
theorem dX5_lookAt_66 : decode cX5_lookAt 66 = .ok (.if_icmp .ge 64, 3) := by decide +kernel
theorem dX5_lookAt_69 : decode cX5_lookAt 69 = .ok (.aload_n 0, 1) := by decide +kernel
theorem dX5_lookAt_70 : decode cX5_lookAt 70 = .ok (.getfield 34, 3) := by decide +kernel
theorem dX5_lookAt_73 : decode cX5_lookAt 73 = .ok (.iload_n 2, 1) := by decide +kernel
theorem dX5_lookAt_74 : decode cX5_lookAt 74 = .ok (.iaload, 1) := by decide +kernel
theorem dX5_lookAt_75 : decode cX5_lookAt 75 = .ok (.iload_n 1, 1) := by decide +kernel
theorem dX5_lookAt_76 : decode cX5_lookAt 76 = .ok (.if_icmp .ne 48, 3) := by decide +kernel
theorem dX5_lookAt_79 : decode cX5_lookAt 79 = .ok (.aload_n 0, 1) := by decide +kernel
theorem dX5_lookAt_80 : decode cX5_lookAt 80 = .ok (.iload_n 2, 1) := by decide +kernel
theorem dX5_lookAt_81 : decode cX5_lookAt 81 = .ok (.invokevirtual 108, 3) := by decide +kernel
theorem dX5_lookAt_84 : decode cX5_lookAt 84 = .ok (.ifCond .eq 40, 3) := by decide +kernel
theorem dX5_lookAt_87 : decode cX5_lookAt 87 = .ok (.aload_n 0, 1) := by decide +kernel
theorem dX5_lookAt_88 : decode cX5_lookAt 88 = .ok (.getfield 43, 3) := by decide +kernel
theorem dX5_lookAt_91 : decode cX5_lookAt 91 = .ok (.iload_n 2, 1) := by decide +kernel
theorem dX5_lookAt_92 : decode cX5_lookAt 92 = .ok (.iconst 1, 1) := by decide +kernel
theorem dX5_lookAt_93 : decode cX5_lookAt 93 = .ok (.iastore, 1) := by decide +kernel
theorem dX5_lookAt_94 : decode cX5_lookAt 94 = .ok (.aload_n 0, 1) := by decide +kernel
theorem dX5_lookAt_95 : decode cX5_lookAt 95 = .ok (.getfield 46, 3) := by decide +kernel
theorem dX5_lookAt_98 : decode cX5_lookAt 98 = .ok (.iload_n 2, 1) := by decide +kernel
theorem dX5_lookAt_99 : decode cX5_lookAt 99 = .ok (.aload_n 0, 1) := by decide +kernel
theorem dX5_lookAt_100 : decode cX5_lookAt 100 = .ok (.getfield 101, 3) := by decide +kernel
theorem dX5_lookAt_103 : decode cX5_lookAt 103 = .ok (.iastore, 1) := by decide +kernel
theorem dX5_lookAt_104 : decode cX5_lookAt 104 = .ok (.aload_n 0, 1) := by decide +kernel
theorem dX5_lookAt_105 : decode cX5_lookAt 105 = .ok (.getfield 52, 3) := by decide +kernel
theorem dX5_lookAt_108 : decode cX5_lookAt 108 = .ok (.aload_n 0, 1) := by decide +kernel
theorem dX5_lookAt_109 : decode cX5_lookAt 109 = .ok (.getfield 115, 3) := by decide +kernel
theorem dX5_lookAt_112 : decode cX5_lookAt 112 = .ok (.iload_n 2, 1) := by decide +kernel
theorem dX5_lookAt_113 : decode cX5_lookAt 113 = .ok (.iastore, 1) := by decide +kernel
theorem dX5_lookAt_114 : decode cX5_lookAt 114 = .ok (.aload_n 0, 1) := by decide +kernel
theorem dX5_lookAt_115 : decode cX5_lookAt 115 = .ok (.dup, 1) := by decide +kernel
theorem dX5_lookAt_116 : decode cX5_lookAt 116 = .ok (.getfield 115, 3) := by decide +kernel
theorem dX5_lookAt_119 : decode cX5_lookAt 119 = .ok (.iconst 1, 1) := by decide +kernel
theorem dX5_lookAt_120 : decode cX5_lookAt 120 = .ok (.iadd, 1) := by decide +kernel
theorem dX5_lookAt_121 : decode cX5_lookAt 121 = .ok (.putfield 115, 3) := by decide +kernel
theorem dX5_lookAt_124 : decode cX5_lookAt 124 = .ok (.iinc 2 1, 3) := by decide +kernel
theorem dX5_lookAt_127 : decode cX5_lookAt 127 = .ok (.goto (-66), 3) := by decide +kernel
theorem dX5_lookAt_130 : decode cX5_lookAt 130 = .ok (.return_, 1) := by decide +kernel
theorem dX5_waiting_0 : decode cX5_waiting 0 = .ok (.iconst (-1), 1) := by decide +kernel
theorem dX5_waiting_1 : decode cX5_waiting 1 = .ok (.istore_n 3, 1) := by decide +kernel
theorem dX5_waiting_2 : decode cX5_waiting 2 = .ok (.iconst 0, 1) := by decide +kernel
theorem dX5_waiting_3 : decode cX5_waiting 3 = .ok (.istore 4, 2) := by decide +kernel
theorem dX5_waiting_5 : decode cX5_waiting 5 = .ok (.iload 4, 2) := by decide +kernel
theorem dX5_waiting_7 : decode cX5_waiting 7 = .ok (.aload_n 0, 1) := by decide +kernel
theorem dX5_waiting_8 : decode cX5_waiting 8 = .ok (.getfield 86, 3) := by decide +kernel
theorem dX5_waiting_11 : decode cX5_waiting 11 = .ok (.if_icmp .ge 49, 3) := by decide +kernel
theorem dX5_waiting_14 : decode cX5_waiting 14 = .ok (.aload_n 0, 1) := by decide +kernel
theorem dX5_waiting_15 : decode cX5_waiting 15 = .ok (.getfield 28, 3) := by decide +kernel
theorem dX5_waiting_18 : decode cX5_waiting 18 = .ok (.iload 4, 2) := by decide +kernel
theorem dX5_waiting_20 : decode cX5_waiting 20 = .ok (.iaload, 1) := by decide +kernel
theorem dX5_waiting_21 : decode cX5_waiting 21 = .ok (.iconst 2, 1) := by decide +kernel
theorem dX5_waiting_22 : decode cX5_waiting 22 = .ok (.if_icmp .ne 30, 3) := by decide +kernel
theorem dX5_waiting_25 : decode cX5_waiting 25 = .ok (.aload_n 0, 1) := by decide +kernel
theorem dX5_waiting_26 : decode cX5_waiting 26 = .ok (.getfield 22, 3) := by decide +kernel
theorem dX5_waiting_29 : decode cX5_waiting 29 = .ok (.iload 4, 2) := by decide +kernel
theorem dX5_waiting_31 : decode cX5_waiting 31 = .ok (.iaload, 1) := by decide +kernel
theorem dX5_waiting_32 : decode cX5_waiting 32 = .ok (.iload_n 1, 1) := by decide +kernel
theorem dX5_waiting_33 : decode cX5_waiting 33 = .ok (.if_icmp .ne 19, 3) := by decide +kernel
theorem dX5_waiting_36 : decode cX5_waiting 36 = .ok (.aload_n 0, 1) := by decide +kernel
theorem dX5_waiting_37 : decode cX5_waiting 37 = .ok (.getfield 31, 3) := by decide +kernel
theorem dX5_waiting_40 : decode cX5_waiting 40 = .ok (.iload 4, 2) := by decide +kernel
theorem dX5_waiting_42 : decode cX5_waiting 42 = .ok (.iaload, 1) := by decide +kernel
theorem dX5_waiting_43 : decode cX5_waiting 43 = .ok (.iload_n 2, 1) := by decide +kernel
theorem dX5_waiting_44 : decode cX5_waiting 44 = .ok (.if_icmp .ne 8, 3) := by decide +kernel
theorem dX5_waiting_47 : decode cX5_waiting 47 = .ok (.iload 4, 2) := by decide +kernel
theorem dX5_waiting_49 : decode cX5_waiting 49 = .ok (.goto 4, 3) := by decide +kernel
theorem dX5_waiting_52 : decode cX5_waiting 52 = .ok (.iload_n 3, 1) := by decide +kernel
theorem dX5_waiting_53 : decode cX5_waiting 53 = .ok (.istore_n 3, 1) := by decide +kernel
theorem dX5_waiting_54 : decode cX5_waiting 54 = .ok (.iinc 4 1, 3) := by decide +kernel
theorem dX5_waiting_57 : decode cX5_waiting 57 = .ok (.goto (-52), 3) := by decide +kernel
theorem dX5_waiting_60 : decode cX5_waiting 60 = .ok (.iload_n 3, 1) := by decide +kernel
theorem dX5_waiting_61 : decode cX5_waiting 61 = .ok (.ireturn, 1) := by decide +kernel
set_option maxRecDepth 20000 in
theorem ggX5_send_X5_isFile : GoodIn wsX5_send wsX5_isFile := goodIn_r _ [10, 11, 12, 13, 9, 14, 48, 49, 50, 51, 52, 53, 54, 55, 56, 57, 58, 59, 60, 61, 62, 63, 64, 65, 66, 67, 68, 69, 70, 71, 72, 73] (by decide +kernel) (by decide +kernel)
set_option maxRecDepth 20000 in
theorem gX5_send_X5_isFile : GoodIn wsX5_send (wsV RX5 104 RX5 yX5_isFile wsX5_isFile) := goodIn_app (goodIn_of _ (by decide +kernel)) ggX5_send_X5_isFile
set_option maxRecDepth 20000 in
theorem ggX5_send_X5_in : GoodIn wsX5_send wsX5_in := goodIn_r _ [14] (by decide +kernel) (by decide +kernel)
set_option maxRecDepth 20000 in
theorem gX5_send_X5_in : GoodIn wsX5_send (va_wsS RX5 78 yX5_in wsX5_in) := goodIn_app (goodIn_of _ (by decide +kernel)) ggX5_send_X5_in
set_option maxRecDepth 20000 in
theorem ggX5_send_X5_callsOf : GoodIn wsX5_send wsX5_callsOf := goodIn_r _ [18, 19, 20, 21, 22, 23, 9, 24, 3, 25, 26, 27, 28, 29, 30, 31, 32, 33, 48, 49, 50, 51, 52, 53, 54, 55, 56, 57, 58, 59, 60, 61, 62, 63, 64, 65, 66, 67, 68, 69, 70, 71, 72, 73] (by decide +kernel) (by decide +kernel)
set_option maxRecDepth 20000 in
theorem gX5_send_X5_callsOf : GoodIn wsX5_send (wsV RX5 111 RX5 yX5_callsOf wsX5_callsOf) := goodIn_app (goodIn_of _ (by decide +kernel)) ggX5_send_X5_callsOf
set_option maxRecDepth 20000 in
theorem ggX5_send_X5_waiting : GoodIn wsX5_send wsX5_waiting := goodIn_r _ [37, 11, 1, 3, 5, 48, 49, 50, 51, 52, 53, 54, 55, 56, 57, 58, 59, 60, 61, 62, 63, 64, 65, 66, 67, 68, 69, 70, 71, 72, 73] (by decide +kernel) (by decide +kernel)
set_option maxRecDepth 20000 in
theorem gX5_send_X5_waiting : GoodIn wsX5_send (wsV RX5 118 RX5 yX5_waiting wsX5_waiting) := goodIn_app (goodIn_of _ (by decide +kernel)) ggX5_send_X5_waiting
set_option maxRecDepth 20000 in
theorem ggX5_send_X5_lookAt : GoodIn wsX5_send wsX5_lookAt := goodIn_r _ [41, 42, 43, 1, 19, 20, 44, 45, 46, 47, 15, 16, 17, 9, 18, 21, 22, 23, 24, 3, 25, 26, 27, 28, 29, 30, 31, 32, 33, 48, 49, 50, 51, 52, 53, 54, 55, 56, 57, 58, 59, 60, 61, 62, 63, 64, 65, 66, 67, 68, 69, 70, 71, 72, 73] (by decide +kernel) (by decide +kernel)
set_option maxRecDepth 20000 in
theorem gX5_send_X5_lookAt : GoodIn wsX5_send (wsV RX5 121 RX5 yX5_lookAt wsX5_lookAt) := goodIn_app (goodIn_of _ (by decide +kernel)) ggX5_send_X5_lookAt
theorem dX5_send_0 : decode cX5_send 0 = .ok (.aload_n 0, 1) := by decide +kernel
theorem dX5_send_1 : decode cX5_send 1 = .ok (.aload_n 0, 1) := by decide +kernel
theorem dX5_send_2 : decode cX5_send 2 = .ok (.iload_n 1, 1) := by decide +kernel
theorem dX5_send_3 : decode cX5_send 3 = .ok (.invokevirtual 104, 3) := by decide +kernel
theorem dX5_send_6 : decode cX5_send 6 = .ok (.ifCond .ne 7, 3) := by decide +kernel
theorem dX5_send_9 : decode cX5_send 9 = .ok (.iconst 1, 1) := by decide +kernel
theorem dX5_send_10 : decode cX5_send 10 = .ok (.goto 40, 3) := by decide +kernel
theorem dX5_send_13 : decode cX5_send 13 = .ok (.iload_n 2, 1) := by decide +kernel
theorem dX5_send_14 : decode cX5_send 14 = .ok (.iconst 1, 1) := by decide +kernel
theorem dX5_send_15 : decode cX5_send 15 = .ok (.bipush 99, 2) := by decide +kernel
theorem dX5_send_17 : decode cX5_send 17 = .ok (.invokestatic 78, 3) := by decide +kernel
theorem dX5_send_20 : decode cX5_send 20 = .ok (.ifCond .ne 7, 3) := by decide +kernel
theorem dX5_send_23 : decode cX5_send 23 = .ok (.iconst 2, 1) := by decide +kernel
theorem dX5_send_24 : decode cX5_send 24 = .ok (.goto 26, 3) := by decide +kernel
theorem dX5_send_27 : decode cX5_send 27 = .ok (.aload_n 0, 1) := by decide +kernel
theorem dX5_send_28 : decode cX5_send 28 = .ok (.getfield 28, 3) := by decide +kernel
theorem dX5_send_31 : decode cX5_send 31 = .ok (.iload_n 1, 1) := by decide +kernel
theorem dX5_send_32 : decode cX5_send 32 = .ok (.iaload, 1) := by decide +kernel
theorem dX5_send_33 : decode cX5_send 33 = .ok (.ifCond .ne 12, 3) := by decide +kernel
theorem dX5_send_36 : decode cX5_send 36 = .ok (.aload_n 0, 1) := by decide +kernel
theorem dX5_send_37 : decode cX5_send 37 = .ok (.iload_n 1, 1) := by decide +kernel
theorem dX5_send_38 : decode cX5_send 38 = .ok (.iconst 0, 1) := by decide +kernel
theorem dX5_send_39 : decode cX5_send 39 = .ok (.invokevirtual 111, 3) := by decide +kernel
theorem dX5_send_42 : decode cX5_send 42 = .ok (.ifCond .ne 7, 3) := by decide +kernel
theorem dX5_send_45 : decode cX5_send 45 = .ok (.iconst 3, 1) := by decide +kernel
theorem dX5_send_46 : decode cX5_send 46 = .ok (.goto 4, 3) := by decide +kernel
theorem dX5_send_49 : decode cX5_send 49 = .ok (.iconst 0, 1) := by decide +kernel
theorem dX5_send_50 : decode cX5_send 50 = .ok (.putfield 74, 3) := by decide +kernel
theorem dX5_send_53 : decode cX5_send 53 = .ok (.aload_n 0, 1) := by decide +kernel
theorem dX5_send_54 : decode cX5_send 54 = .ok (.getfield 74, 3) := by decide +kernel
theorem dX5_send_57 : decode cX5_send 57 = .ok (.ifCond .le 5, 3) := by decide +kernel
theorem dX5_send_60 : decode cX5_send 60 = .ok (.iconst 0, 1) := by decide +kernel
theorem dX5_send_61 : decode cX5_send 61 = .ok (.ireturn, 1) := by decide +kernel
theorem dX5_send_62 : decode cX5_send 62 = .ok (.aload_n 0, 1) := by decide +kernel
theorem dX5_send_63 : decode cX5_send 63 = .ok (.getfield 22, 3) := by decide +kernel
theorem dX5_send_66 : decode cX5_send 66 = .ok (.iload_n 1, 1) := by decide +kernel
theorem dX5_send_67 : decode cX5_send 67 = .ok (.iaload, 1) := by decide +kernel
theorem dX5_send_68 : decode cX5_send 68 = .ok (.istore_n 3, 1) := by decide +kernel
theorem dX5_send_69 : decode cX5_send 69 = .ok (.iload_n 2, 1) := by decide +kernel
theorem dX5_send_70 : decode cX5_send 70 = .ok (.aload_n 0, 1) := by decide +kernel
theorem dX5_send_71 : decode cX5_send 71 = .ok (.getfield 55, 3) := by decide +kernel
theorem dX5_send_74 : decode cX5_send 74 = .ok (.iload_n 3, 1) := by decide +kernel
theorem dX5_send_75 : decode cX5_send 75 = .ok (.iaload, 1) := by decide +kernel
theorem dX5_send_76 : decode cX5_send 76 = .ok (.if_icmp .lt 13, 3) := by decide +kernel
theorem dX5_send_79 : decode cX5_send 79 = .ok (.aload_n 0, 1) := by decide +kernel
theorem dX5_send_80 : decode cX5_send 80 = .ok (.iload_n 3, 1) := by decide +kernel
theorem dX5_send_81 : decode cX5_send 81 = .ok (.iload_n 2, 1) := by decide +kernel
theorem dX5_send_82 : decode cX5_send 82 = .ok (.invokevirtual 118, 3) := by decide +kernel
theorem dX5_send_85 : decode cX5_send 85 = .ok (.iconst (-1), 1) := by decide +kernel
theorem dX5_send_86 : decode cX5_send 86 = .ok (.if_icmp .eq 13, 3) := by decide +kernel
theorem dX5_send_89 : decode cX5_send 89 = .ok (.aload_n 0, 1) := by decide +kernel
theorem dX5_send_90 : decode cX5_send 90 = .ok (.getfield 28, 3) := by decide +kernel
theorem dX5_send_93 : decode cX5_send 93 = .ok (.iload_n 1, 1) := by decide +kernel
theorem dX5_send_94 : decode cX5_send 94 = .ok (.iconst 1, 1) := by decide +kernel
theorem dX5_send_95 : decode cX5_send 95 = .ok (.iastore, 1) := by decide +kernel
theorem dX5_send_96 : decode cX5_send 96 = .ok (.goto 68, 3) := by decide +kernel
theorem dX5_send_99 : decode cX5_send 99 = .ok (.aload_n 0, 1) := by decide +kernel
theorem dX5_send_100 : decode cX5_send 100 = .ok (.getfield 28, 3) := by decide +kernel
theorem dX5_send_103 : decode cX5_send 103 = .ok (.iload_n 1, 1) := by decide +kernel
theorem dX5_send_104 : decode cX5_send 104 = .ok (.iconst 2, 1) := by decide +kernel
theorem dX5_send_105 : decode cX5_send 105 = .ok (.iastore, 1) := by decide +kernel
theorem dX5_send_106 : decode cX5_send 106 = .ok (.aload_n 0, 1) := by decide +kernel
theorem dX5_send_107 : decode cX5_send 107 = .ok (.getfield 31, 3) := by decide +kernel
theorem dX5_send_110 : decode cX5_send 110 = .ok (.iload_n 1, 1) := by decide +kernel
theorem dX5_send_111 : decode cX5_send 111 = .ok (.iload_n 2, 1) := by decide +kernel
theorem dX5_send_112 : decode cX5_send 112 = .ok (.iastore, 1) := by decide +kernel
theorem dX5_send_113 : decode cX5_send 113 = .ok (.aload_n 0, 1) := by decide +kernel
theorem dX5_send_114 : decode cX5_send 114 = .ok (.iload_n 3, 1) := by decide +kernel
theorem dX5_send_115 : decode cX5_send 115 = .ok (.aload_n 0, 1) := by decide +kernel
theorem dX5_send_116 : decode cX5_send 116 = .ok (.getfield 55, 3) := by decide +kernel
theorem dX5_send_119 : decode cX5_send 119 = .ok (.iload_n 3, 1) := by decide +kernel
theorem dX5_send_120 : decode cX5_send 120 = .ok (.iaload, 1) := by decide +kernel
theorem dX5_send_121 : decode cX5_send 121 = .ok (.invokevirtual 118, 3) := by decide +kernel
theorem dX5_send_124 : decode cX5_send 124 = .ok (.istore 4, 2) := by decide +kernel
theorem dX5_send_126 : decode cX5_send 126 = .ok (.iload 4, 2) := by decide +kernel
theorem dX5_send_128 : decode cX5_send 128 = .ok (.iconst (-1), 1) := by decide +kernel
theorem dX5_send_129 : decode cX5_send 129 = .ok (.if_icmp .eq 35, 3) := by decide +kernel
theorem dX5_send_132 : decode cX5_send 132 = .ok (.aload_n 0, 1) := by decide +kernel
theorem dX5_send_133 : decode cX5_send 133 = .ok (.iload 4, 2) := by decide +kernel
theorem dX5_send_135 : decode cX5_send 135 = .ok (.invokevirtual 121, 3) := by decide +kernel
theorem dX5_send_138 : decode cX5_send 138 = .ok (.aload_n 0, 1) := by decide +kernel
theorem dX5_send_139 : decode cX5_send 139 = .ok (.getfield 55, 3) := by decide +kernel
theorem dX5_send_142 : decode cX5_send 142 = .ok (.iload_n 3, 1) := by decide +kernel
theorem dX5_send_143 : decode cX5_send 143 = .ok (.dup2, 1) := by decide +kernel
theorem dX5_send_144 : decode cX5_send 144 = .ok (.iaload, 1) := by decide +kernel
theorem dX5_send_145 : decode cX5_send 145 = .ok (.iconst 1, 1) := by decide +kernel
theorem dX5_send_146 : decode cX5_send 146 = .ok (.iadd, 1) := by decide +kernel
theorem dX5_send_147 : decode cX5_send 147 = .ok (.iastore, 1) := by decide +kernel
theorem dX5_send_148 : decode cX5_send 148 = .ok (.aload_n 0, 1) := by decide +kernel
theorem dX5_send_149 : decode cX5_send 149 = .ok (.iload_n 3, 1) := by decide +kernel
theorem dX5_send_150 : decode cX5_send 150 = .ok (.aload_n 0, 1) := by decide +kernel
theorem dX5_send_151 : decode cX5_send 151 = .ok (.getfield 55, 3) := by decide +kernel
theorem dX5_send_154 : decode cX5_send 154 = .ok (.iload_n 3, 1) := by decide +kernel
theorem dX5_send_155 : decode cX5_send 155 = .ok (.iaload, 1) := by decide +kernel
theorem dX5_send_156 : decode cX5_send 156 = .ok (.invokevirtual 118, 3) := by decide +kernel
theorem dX5_send_159 : decode cX5_send 159 = .ok (.istore 4, 2) := by decide +kernel
theorem dX5_send_161 : decode cX5_send 161 = .ok (.goto (-35), 3) := by decide +kernel
theorem dX5_send_164 : decode cX5_send 164 = .ok (.aload_n 0, 1) := by decide +kernel
theorem dX5_send_165 : decode cX5_send 165 = .ok (.getfield 28, 3) := by decide +kernel
theorem dX5_send_168 : decode cX5_send 168 = .ok (.iload_n 1, 1) := by decide +kernel
theorem dX5_send_169 : decode cX5_send 169 = .ok (.iaload, 1) := by decide +kernel
theorem dX5_send_170 : decode cX5_send 170 = .ok (.ireturn, 1) := by decide +kernel
set_option maxRecDepth 20000 in
theorem ggX5_stateOf_X5_isFile : GoodIn wsX5_stateOf wsX5_isFile := goodIn_r _ [7, 8, 9, 10, 6, 11, 12, 13, 14, 15, 16, 17, 18, 19, 20, 21, 22, 23, 24, 25, 26, 27, 28, 29, 30, 31, 32, 33, 34, 35, 36, 37] (by decide +kernel) (by decide +kernel)
set_option maxRecDepth 20000 in
theorem gX5_stateOf_X5_isFile : GoodIn wsX5_stateOf (wsV RX5 104 RX5 yX5_isFile wsX5_isFile) := goodIn_app (goodIn_of _ (by decide +kernel)) ggX5_stateOf_X5_isFile
theorem dX5_stateOf_0 : decode cX5_stateOf 0 = .ok (.aload_n 0, 1) := by decide +kernel
theorem dX5_stateOf_1 : decode cX5_stateOf 1 = .ok (.aload_n 0, 1) := by decide +kernel
theorem dX5_stateOf_2 : decode cX5_stateOf 2 = .ok (.iload_n 1, 1) := by decide +kernel
theorem dX5_stateOf_3 : decode cX5_stateOf 3 = .ok (.invokevirtual 104, 3) := by decide +kernel
theorem dX5_stateOf_6 : decode cX5_stateOf 6 = .ok (.ifCond .eq 7, 3) := by decide +kernel
theorem dX5_stateOf_9 : decode cX5_stateOf 9 = .ok (.iconst 0, 1) := by decide +kernel
theorem dX5_stateOf_10 : decode cX5_stateOf 10 = .ok (.goto 4, 3) := by decide +kernel
theorem dX5_stateOf_13 : decode cX5_stateOf 13 = .ok (.iconst 1, 1) := by decide +kernel
theorem dX5_stateOf_14 : decode cX5_stateOf 14 = .ok (.putfield 74, 3) := by decide +kernel
theorem dX5_stateOf_17 : decode cX5_stateOf 17 = .ok (.aload_n 0, 1) := by decide +kernel
theorem dX5_stateOf_18 : decode cX5_stateOf 18 = .ok (.getfield 74, 3) := by decide +kernel
theorem dX5_stateOf_21 : decode cX5_stateOf 21 = .ok (.ifCond .ne 12, 3) := by decide +kernel
theorem dX5_stateOf_24 : decode cX5_stateOf 24 = .ok (.aload_n 0, 1) := by decide +kernel
theorem dX5_stateOf_25 : decode cX5_stateOf 25 = .ok (.getfield 28, 3) := by decide +kernel
theorem dX5_stateOf_28 : decode cX5_stateOf 28 = .ok (.iload_n 1, 1) := by decide +kernel
theorem dX5_stateOf_29 : decode cX5_stateOf 29 = .ok (.iaload, 1) := by decide +kernel
theorem dX5_stateOf_30 : decode cX5_stateOf 30 = .ok (.goto 4, 3) := by decide +kernel
theorem dX5_stateOf_33 : decode cX5_stateOf 33 = .ok (.iconst 0, 1) := by decide +kernel
theorem dX5_stateOf_34 : decode cX5_stateOf 34 = .ok (.ireturn, 1) := by decide +kernel
set_option maxRecDepth 20000 in
theorem ggX5_expected_X5_isPair : GoodIn wsX5_expected wsX5_isPair := goodIn_r _ [6, 7, 8, 9, 5, 10, 11, 12, 13, 14, 15, 16, 17, 18, 19, 20, 21, 22, 23, 24, 25, 26, 27, 28, 29, 30, 31, 32, 33, 34, 35, 36, 37, 38, 39] (by decide +kernel) (by decide +kernel)
set_option maxRecDepth 20000 in
theorem gX5_expected_X5_isPair : GoodIn wsX5_expected (wsV RX5 97 RX5 yX5_isPair wsX5_isPair) := goodIn_app (goodIn_of _ (by decide +kernel)) ggX5_expected_X5_isPair
theorem dX5_expected_0 : decode cX5_expected 0 = .ok (.aload_n 0, 1) := by decide +kernel
theorem dX5_expected_1 : decode cX5_expected 1 = .ok (.iload_n 1, 1) := by decide +kernel
theorem dX5_expected_2 : decode cX5_expected 2 = .ok (.iload_n 2, 1) := by decide +kernel
theorem dX5_expected_3 : decode cX5_expected 3 = .ok (.iconst 1, 1) := by decide +kernel
theorem dX5_expected_4 : decode cX5_expected 4 = .ok (.invokevirtual 97, 3) := by decide +kernel
theorem dX5_expected_7 : decode cX5_expected 7 = .ok (.ifCond .eq 16, 3) := by decide +kernel
theorem dX5_expected_10 : decode cX5_expected 10 = .ok (.aload_n 0, 1) := by decide +kernel
theorem dX5_expected_11 : decode cX5_expected 11 = .ok (.getfield 55, 3) := by decide +kernel
theorem dX5_expected_14 : decode cX5_expected 14 = .ok (.iconst 4, 1) := by decide +kernel
theorem dX5_expected_15 : decode cX5_expected 15 = .ok (.iload_n 1, 1) := by decide +kernel
theorem dX5_expected_16 : decode cX5_expected 16 = .ok (.imul, 1) := by decide +kernel
theorem dX5_expected_17 : decode cX5_expected 17 = .ok (.iload_n 2, 1) := by decide +kernel
theorem dX5_expected_18 : decode cX5_expected 18 = .ok (.iadd, 1) := by decide +kernel
theorem dX5_expected_19 : decode cX5_expected 19 = .ok (.iaload, 1) := by decide +kernel
theorem dX5_expected_20 : decode cX5_expected 20 = .ok (.goto 4, 3) := by decide +kernel
theorem dX5_expected_23 : decode cX5_expected 23 = .ok (.iconst 0, 1) := by decide +kernel
theorem dX5_expected_24 : decode cX5_expected 24 = .ok (.ireturn, 1) := by decide +kernel
set_option maxRecDepth 20000 in
theorem ggX5_lacking_X5_isPair : GoodIn wsX5_lacking wsX5_isPair := goodIn_r _ [10, 11, 12, 13, 9, 14, 15, 16, 17, 18, 19, 20, 21, 22, 23, 24, 25, 26, 27, 28, 29, 30, 31, 32, 33, 34, 35, 36, 37, 38, 39, 40, 41, 42, 43] (by decide +kernel) (by decide +kernel)
set_option maxRecDepth 20000 in
theorem gX5_lacking_X5_isPair : GoodIn wsX5_lacking (wsV RX5 97 RX5 yX5_isPair wsX5_isPair) := goodIn_app (goodIn_of _ (by decide +kernel)) ggX5_lacking_X5_isPair
theorem dX5_lacking_0 : decode cX5_lacking 0 = .ok (.aload_n 0, 1) := by decide +kernel
theorem dX5_lacking_1 : decode cX5_lacking 1 = .ok (.iload_n 1, 1) := by decide +kernel
theorem dX5_lacking_2 : decode cX5_lacking 2 = .ok (.iload_n 2, 1) := by decide +kernel
theorem dX5_lacking_3 : decode cX5_lacking 3 = .ok (.iconst 1, 1) := by decide +kernel
theorem dX5_lacking_4 : decode cX5_lacking 4 = .ok (.invokevirtual 97, 3) := by decide +kernel
theorem dX5_lacking_7 : decode cX5_lacking 7 = .ok (.ifCond .ne 5, 3) := by decide +kernel
theorem dX5_lacking_10 : decode cX5_lacking 10 = .ok (.iconst 0, 1) := by decide +kernel
theorem dX5_lacking_11 : decode cX5_lacking 11 = .ok (.ireturn, 1) := by decide +kernel
theorem dX5_lacking_12 : decode cX5_lacking 12 = .ok (.iconst 4, 1) := by decide +kernel
theorem dX5_lacking_13 : decode cX5_lacking 13 = .ok (.iload_n 1, 1) := by decide +kernel
theorem dX5_lacking_14 : decode cX5_lacking 14 = .ok (.imul, 1) := by decide +kernel
theorem dX5_lacking_15 : decode cX5_lacking 15 = .ok (.iload_n 2, 1) := by decide +kernel
theorem dX5_lacking_16 : decode cX5_lacking 16 = .ok (.iadd, 1) := by decide +kernel
theorem dX5_lacking_17 : decode cX5_lacking 17 = .ok (.istore_n 3, 1) := by decide +kernel
theorem dX5_lacking_18 : decode cX5_lacking 18 = .ok (.iconst 0, 1) := by decide +kernel
theorem dX5_lacking_19 : decode cX5_lacking 19 = .ok (.istore 4, 2) := by decide +kernel
theorem dX5_lacking_21 : decode cX5_lacking 21 = .ok (.iconst 0, 1) := by decide +kernel
theorem dX5_lacking_22 : decode cX5_lacking 22 = .ok (.istore 5, 2) := by decide +kernel
theorem dX5_lacking_24 : decode cX5_lacking 24 = .ok (.iconst 0, 1) := by decide +kernel
theorem dX5_lacking_25 : decode cX5_lacking 25 = .ok (.istore 6, 2) := by decide +kernel
theorem dX5_lacking_27 : decode cX5_lacking 27 = .ok (.iload 6, 2) := by decide +kernel
theorem dX5_lacking_29 : decode cX5_lacking 29 = .ok (.aload_n 0, 1) := by decide +kernel
theorem dX5_lacking_30 : decode cX5_lacking 30 = .ok (.getfield 86, 3) := by decide +kernel
theorem dX5_lacking_33 : decode cX5_lacking 33 = .ok (.if_icmp .ge 60, 3) := by decide +kernel
theorem dX5_lacking_36 : decode cX5_lacking 36 = .ok (.aload_n 0, 1) := by decide +kernel
theorem dX5_lacking_37 : decode cX5_lacking 37 = .ok (.getfield 28, 3) := by decide +kernel
theorem dX5_lacking_40 : decode cX5_lacking 40 = .ok (.iload 6, 2) := by decide +kernel
theorem dX5_lacking_42 : decode cX5_lacking 42 = .ok (.iaload, 1) := by decide +kernel
theorem dX5_lacking_43 : decode cX5_lacking 43 = .ok (.iconst 2, 1) := by decide +kernel
theorem dX5_lacking_44 : decode cX5_lacking 44 = .ok (.if_icmp .ne 43, 3) := by decide +kernel
theorem dX5_lacking_47 : decode cX5_lacking 47 = .ok (.aload_n 0, 1) := by decide +kernel
theorem dX5_lacking_48 : decode cX5_lacking 48 = .ok (.getfield 22, 3) := by decide +kernel
theorem dX5_lacking_51 : decode cX5_lacking 51 = .ok (.iload 6, 2) := by decide +kernel
theorem dX5_lacking_53 : decode cX5_lacking 53 = .ok (.iaload, 1) := by decide +kernel
theorem dX5_lacking_54 : decode cX5_lacking 54 = .ok (.iload_n 3, 1) := by decide +kernel
theorem dX5_lacking_55 : decode cX5_lacking 55 = .ok (.if_icmp .ne 32, 3) := by decide +kernel
theorem dX5_lacking_58 : decode cX5_lacking 58 = .ok (.aload_n 0, 1) := by decide +kernel
theorem dX5_lacking_59 : decode cX5_lacking 59 = .ok (.getfield 31, 3) := by decide +kernel
theorem dX5_lacking_62 : decode cX5_lacking 62 = .ok (.iload 6, 2) := by decide +kernel
theorem dX5_lacking_64 : decode cX5_lacking 64 = .ok (.iaload, 1) := by decide +kernel
theorem dX5_lacking_65 : decode cX5_lacking 65 = .ok (.iload 4, 2) := by decide +kernel
theorem dX5_lacking_67 : decode cX5_lacking 67 = .ok (.if_icmp .le 13, 3) := by decide +kernel
theorem dX5_lacking_70 : decode cX5_lacking 70 = .ok (.aload_n 0, 1) := by decide +kernel
theorem dX5_lacking_71 : decode cX5_lacking 71 = .ok (.getfield 31, 3) := by decide +kernel
theorem dX5_lacking_74 : decode cX5_lacking 74 = .ok (.iload 6, 2) := by decide +kernel
theorem dX5_lacking_76 : decode cX5_lacking 76 = .ok (.iaload, 1) := by decide +kernel
theorem dX5_lacking_77 : decode cX5_lacking 77 = .ok (.goto 5, 3) := by decide +kernel
theorem dX5_lacking_80 : decode cX5_lacking 80 = .ok (.iload 4, 2) := by decide +kernel
theorem dX5_lacking_82 : decode cX5_lacking 82 = .ok (.istore 4, 2) := by decide +kernel
theorem dX5_lacking_84 : decode cX5_lacking 84 = .ok (.iinc 5 1, 3) := by decide +kernel
theorem dX5_lacking_87 : decode cX5_lacking 87 = .ok (.iinc 6 1, 3) := by decide +kernel
theorem dX5_lacking_90 : decode cX5_lacking 90 = .ok (.goto (-63), 3) := by decide +kernel
theorem dX5_lacking_93 : decode cX5_lacking 93 = .ok (.iload 5, 2) := by decide +kernel
theorem dX5_lacking_95 : decode cX5_lacking 95 = .ok (.ifCond .ne 7, 3) := by decide +kernel
theorem dX5_lacking_98 : decode cX5_lacking 98 = .ok (.iconst 0, 1) := by decide +kernel
theorem dX5_lacking_99 : decode cX5_lacking 99 = .ok (.goto 17, 3) := by decide +kernel
theorem dX5_lacking_102 : decode cX5_lacking 102 = .ok (.iload 4, 2) := by decide +kernel
theorem dX5_lacking_104 : decode cX5_lacking 104 = .ok (.aload_n 0, 1) := by decide +kernel
theorem dX5_lacking_105 : decode cX5_lacking 105 = .ok (.getfield 55, 3) := by decide +kernel
theorem dX5_lacking_108 : decode cX5_lacking 108 = .ok (.iload_n 3, 1) := by decide +kernel
theorem dX5_lacking_109 : decode cX5_lacking 109 = .ok (.iaload, 1) := by decide +kernel
theorem dX5_lacking_110 : decode cX5_lacking 110 = .ok (.isub, 1) := by decide +kernel
theorem dX5_lacking_111 : decode cX5_lacking 111 = .ok (.iconst 1, 1) := by decide +kernel
theorem dX5_lacking_112 : decode cX5_lacking 112 = .ok (.iadd, 1) := by decide +kernel
theorem dX5_lacking_113 : decode cX5_lacking 113 = .ok (.iload 5, 2) := by decide +kernel
theorem dX5_lacking_115 : decode cX5_lacking 115 = .ok (.isub, 1) := by decide +kernel
theorem dX5_lacking_116 : decode cX5_lacking 116 = .ok (.ireturn, 1) := by decide +kernel
theorem dX5_calls_0 : decode cX5_calls 0 = .ok (.aload_n 0, 1) := by decide +kernel
theorem dX5_calls_1 : decode cX5_calls 1 = .ok (.iconst 0, 1) := by decide +kernel
theorem dX5_calls_2 : decode cX5_calls 2 = .ok (.putfield 74, 3) := by decide +kernel
theorem dX5_calls_5 : decode cX5_calls 5 = .ok (.aload_n 0, 1) := by decide +kernel
theorem dX5_calls_6 : decode cX5_calls 6 = .ok (.getfield 89, 3) := by decide +kernel
theorem dX5_calls_9 : decode cX5_calls 9 = .ok (.ireturn, 1) := by decide +kernel
set_option maxRecDepth 20000 in
theorem ggX5_call_X5_isCall : GoodIn wsX5_call wsX5_isCall := goodIn_r _ [7, 8, 9, 10, 6, 11, 12, 13, 14, 15, 16, 17, 18, 19, 20, 21, 22, 23, 24, 25, 26, 27, 28, 29, 30, 31, 32, 33, 34, 35, 36, 37] (by decide +kernel) (by decide +kernel)
set_option maxRecDepth 20000 in
theorem gX5_call_X5_isCall : GoodIn wsX5_call (wsV RX5 125 RX5 yX5_isCall wsX5_isCall) := goodIn_app (goodIn_of _ (by decide +kernel)) ggX5_call_X5_isCall
theorem dX5_call_0 : decode cX5_call 0 = .ok (.aload_n 0, 1) := by decide +kernel
theorem dX5_call_1 : decode cX5_call 1 = .ok (.aload_n 0, 1) := by decide +kernel
theorem dX5_call_2 : decode cX5_call 2 = .ok (.iload_n 1, 1) := by decide +kernel
theorem dX5_call_3 : decode cX5_call 3 = .ok (.invokevirtual 125, 3) := by decide +kernel
theorem dX5_call_6 : decode cX5_call 6 = .ok (.ifCond .eq 7, 3) := by decide +kernel
theorem dX5_call_9 : decode cX5_call 9 = .ok (.iconst 0, 1) := by decide +kernel
theorem dX5_call_10 : decode cX5_call 10 = .ok (.goto 4, 3) := by decide +kernel
theorem dX5_call_13 : decode cX5_call 13 = .ok (.iconst 1, 1) := by decide +kernel
theorem dX5_call_14 : decode cX5_call 14 = .ok (.putfield 74, 3) := by decide +kernel
theorem dX5_call_17 : decode cX5_call 17 = .ok (.aload_n 0, 1) := by decide +kernel
theorem dX5_call_18 : decode cX5_call 18 = .ok (.getfield 74, 3) := by decide +kernel
theorem dX5_call_21 : decode cX5_call 21 = .ok (.ifCond .ne 12, 3) := by decide +kernel
theorem dX5_call_24 : decode cX5_call 24 = .ok (.aload_n 0, 1) := by decide +kernel
theorem dX5_call_25 : decode cX5_call 25 = .ok (.getfield 43, 3) := by decide +kernel
theorem dX5_call_28 : decode cX5_call 28 = .ok (.iload_n 1, 1) := by decide +kernel
theorem dX5_call_29 : decode cX5_call 29 = .ok (.iaload, 1) := by decide +kernel
theorem dX5_call_30 : decode cX5_call 30 = .ok (.goto 4, 3) := by decide +kernel
theorem dX5_call_33 : decode cX5_call 33 = .ok (.iconst 0, 1) := by decide +kernel
theorem dX5_call_34 : decode cX5_call 34 = .ok (.ireturn, 1) := by decide +kernel
set_option maxRecDepth 20000 in
theorem ggX5_monthOf_X5_isCall : GoodIn wsX5_monthOf wsX5_isCall := goodIn_r _ [8, 9, 10, 11, 7, 12, 13, 14, 15, 16, 17, 18, 19, 20, 21, 22, 23, 24, 25, 26, 27, 28, 29, 30, 31, 32, 33, 34, 35, 36, 37, 38] (by decide +kernel) (by decide +kernel)
set_option maxRecDepth 20000 in
theorem gX5_monthOf_X5_isCall : GoodIn wsX5_monthOf (wsV RX5 125 RX5 yX5_isCall wsX5_isCall) := goodIn_app (goodIn_of _ (by decide +kernel)) ggX5_monthOf_X5_isCall
