theorem dX4_shortfall_0 : decode cX4_shortfall 0 = .ok (.aload_n 0, 1) := by decide +kernel
theorem dX4_shortfall_1 : decode cX4_shortfall 1 = .ok (.iload_n 1, 1) := by decide +kernel
theorem dX4_shortfall_2 : decode cX4_shortfall 2 = .ok (.iload_n 2, 1) := by decide +kernel
theorem dX4_shortfall_3 : decode cX4_shortfall 3 = .ok (.invokevirtual 69, 3) := by decide +kernel
theorem dX4_shortfall_6 : decode cX4_shortfall 6 = .ok (.astore 4, 2) := by decide +kernel
theorem dX4_shortfall_8 : decode cX4_shortfall 8 = .ok (.iload_n 3, 1) := by decide +kernel
theorem dX4_shortfall_9 : decode cX4_shortfall 9 = .ok (.iconst 0, 1) := by decide +kernel
theorem dX4_shortfall_10 : decode cX4_shortfall 10 = .ok (.iconst 1, 1) := by decide +kernel
theorem dX4_shortfall_11 : decode cX4_shortfall 11 = .ok (.invokestatic 51, 3) := by decide +kernel
theorem dX4_shortfall_14 : decode cX4_shortfall 14 = .ok (.aload_n 0, 1) := by decide +kernel
theorem dX4_shortfall_15 : decode cX4_shortfall 15 = .ok (.getfield 40, 3) := by decide +kernel
theorem dX4_shortfall_18 : decode cX4_shortfall 18 = .ok (.invokestatic 176, 3) := by decide +kernel
theorem dX4_shortfall_21 : decode cX4_shortfall 21 = .ok (.iload_n 3, 1) := by decide +kernel
theorem dX4_shortfall_22 : decode cX4_shortfall 22 = .ok (.if_icmp .gt 13, 3) := by decide +kernel
theorem dX4_shortfall_25 : decode cX4_shortfall 25 = .ok (.new 73, 3) := by decide +kernel
theorem dX4_shortfall_28 : decode cX4_shortfall 28 = .ok (.dup, 1) := by decide +kernel
theorem dX4_shortfall_29 : decode cX4_shortfall 29 = .ok (.ldc 179, 2) := by decide +kernel
theorem dX4_shortfall_31 : decode cX4_shortfall 31 = .ok (.invokespecial 77, 3) := by decide +kernel
theorem dX4_shortfall_34 : decode cX4_shortfall 34 = .ok (.athrow, 1) := by decide +kernel
theorem dX4_shortfall_35 : decode cX4_shortfall 35 = .ok (.iload_n 3, 1) := by decide +kernel
theorem dX4_shortfall_36 : decode cX4_shortfall 36 = .ok (.bipush 12, 2) := by decide +kernel
theorem dX4_shortfall_38 : decode cX4_shortfall 38 = .ok (.imul, 1) := by decide +kernel
theorem dX4_shortfall_39 : decode cX4_shortfall 39 = .ok (.istore 5, 2) := by decide +kernel
theorem dX4_shortfall_41 : decode cX4_shortfall 41 = .ok (.lconst 0, 1) := by decide +kernel
theorem dX4_shortfall_42 : decode cX4_shortfall 42 = .ok (.aload 4, 2) := by decide +kernel
theorem dX4_shortfall_44 : decode cX4_shortfall 44 = .ok (.getfield 160, 3) := by decide +kernel
theorem dX4_shortfall_47 : decode cX4_shortfall 47 = .ok (.i2l, 1) := by decide +kernel
theorem dX4_shortfall_48 : decode cX4_shortfall 48 = .ok (.aload_n 0, 1) := by decide +kernel
theorem dX4_shortfall_49 : decode cX4_shortfall 49 = .ok (.aload 4, 2) := by decide +kernel
theorem dX4_shortfall_51 : decode cX4_shortfall 51 = .ok (.iload 5, 2) := by decide +kernel
theorem dX4_shortfall_53 : decode cX4_shortfall 53 = .ok (.iload 5, 2) := by decide +kernel
theorem dX4_shortfall_55 : decode cX4_shortfall 55 = .ok (.bipush 12, 2) := by decide +kernel
theorem dX4_shortfall_57 : decode cX4_shortfall 57 = .ok (.iadd, 1) := by decide +kernel
theorem dX4_shortfall_58 : decode cX4_shortfall 58 = .ok (.iconst 1, 1) := by decide +kernel
theorem dX4_shortfall_59 : decode cX4_shortfall 59 = .ok (.isub, 1) := by decide +kernel
theorem dX4_shortfall_60 : decode cX4_shortfall 60 = .ok (.invokevirtual 172, 3) := by decide +kernel
theorem dX4_shortfall_63 : decode cX4_shortfall 63 = .ok (.lsub, 1) := by decide +kernel
theorem dX4_shortfall_64 : decode cX4_shortfall 64 = .ok (.invokestatic 181, 3) := by decide +kernel
theorem dX4_shortfall_67 : decode cX4_shortfall 67 = .ok (.lreturn, 1) := by decide +kernel
set_option maxRecDepth 20000 in
theorem ggX4_net_X4_operatorAt : GoodIn wsX4_net wsX4_operatorAt := goodIn_ca (goodIn_r _ [7, 8, 9, 10, 11, 12, 6, 13, 58, 59, 60, 61, 62, 63, 64] (by decide +kernel) (by decide +kernel)) (goodIn_sub (fun _ h => List.mem_cons_of_mem _ (List.mem_append_left _ (List.mem_append_right _ h))) (by decide +kernel))
set_option maxRecDepth 20000 in
theorem gX4_net_X4_operatorAt : GoodIn wsX4_net (wsV RX4 47 RX4 yX4_operatorAt wsX4_operatorAt) := goodIn_app (goodIn_of _ (by decide +kernel)) ggX4_net_X4_operatorAt
set_option maxRecDepth 20000 in
theorem ggX4_net_X4_refuseOutside : GoodIn wsX4_net wsX4_refuseOutside := goodIn_ca (goodIn_r _ [16, 17, 18] (by decide +kernel) (by decide +kernel)) (goodIn_sub (fun _ h => List.mem_cons_of_mem _ (List.mem_append_right _ h)) (by decide +kernel))
set_option maxRecDepth 20000 in
theorem gX4_net_X4_refuseOutside : GoodIn wsX4_net (va_wsS RX4 51 yX4_refuseOutside wsX4_refuseOutside) := goodIn_app (goodIn_of _ (by decide +kernel)) ggX4_net_X4_refuseOutside
set_option maxRecDepth 20000 in
theorem ggX4_net_X4_unitsOfMonth : GoodIn wsX4_net wsX4_unitsOfMonth := goodIn_r _ [22, 23, 24, 25, 26, 27, 28, 6, 29, 30, 31, 32, 33, 34, 35, 36, 37, 38, 39, 40, 41, 42, 43, 44, 45, 46, 47, 48, 49, 50, 51, 52, 53, 54, 55, 56, 57, 65, 66, 67, 68, 69, 70, 71, 72, 73, 74, 75, 58, 59, 60, 61, 62, 63, 64, 76, 77, 78, 79, 80, 81, 82, 83, 84, 85, 86, 87] (by decide +kernel) (by decide +kernel)
set_option maxRecDepth 20000 in
theorem gX4_net_X4_unitsOfMonth : GoodIn wsX4_net (wsV RX4 184 RX4 yX4_unitsOfMonth wsX4_unitsOfMonth) := goodIn_app (goodIn_of _ (by decide +kernel)) ggX4_net_X4_unitsOfMonth
theorem dX4_net_0 : decode cX4_net 0 = .ok (.aload_n 0, 1) := by decide +kernel
theorem dX4_net_1 : decode cX4_net 1 = .ok (.iload_n 1, 1) := by decide +kernel
theorem dX4_net_2 : decode cX4_net 2 = .ok (.invokevirtual 47, 3) := by decide +kernel
theorem dX4_net_5 : decode cX4_net 5 = .ok (.pop, 1) := by decide +kernel
theorem dX4_net_6 : decode cX4_net 6 = .ok (.iload_n 2, 1) := by decide +kernel
theorem dX4_net_7 : decode cX4_net 7 = .ok (.iconst 0, 1) := by decide +kernel
theorem dX4_net_8 : decode cX4_net 8 = .ok (.aload_n 0, 1) := by decide +kernel
theorem dX4_net_9 : decode cX4_net 9 = .ok (.getfield 40, 3) := by decide +kernel
theorem dX4_net_12 : decode cX4_net 12 = .ok (.invokestatic 51, 3) := by decide +kernel
theorem dX4_net_15 : decode cX4_net 15 = .ok (.lconst 0, 1) := by decide +kernel
theorem dX4_net_16 : decode cX4_net 16 = .ok (.lstore_n 3, 1) := by decide +kernel
theorem dX4_net_17 : decode cX4_net 17 = .ok (.iconst 0, 1) := by decide +kernel
theorem dX4_net_18 : decode cX4_net 18 = .ok (.istore 5, 2) := by decide +kernel
theorem dX4_net_20 : decode cX4_net 20 = .ok (.iload 5, 2) := by decide +kernel
theorem dX4_net_22 : decode cX4_net 22 = .ok (.iconst 4, 1) := by decide +kernel
theorem dX4_net_23 : decode cX4_net 23 = .ok (.if_icmp .ge 53, 3) := by decide +kernel
theorem dX4_net_26 : decode cX4_net 26 = .ok (.iload 5, 2) := by decide +kernel
theorem dX4_net_28 : decode cX4_net 28 = .ok (.iload_n 1, 1) := by decide +kernel
theorem dX4_net_29 : decode cX4_net 29 = .ok (.if_icmp .eq 41, 3) := by decide +kernel
theorem dX4_net_32 : decode cX4_net 32 = .ok (.lload_n 3, 1) := by decide +kernel
theorem dX4_net_33 : decode cX4_net 33 = .ok (.aload_n 0, 1) := by decide +kernel
theorem dX4_net_34 : decode cX4_net 34 = .ok (.aload_n 0, 1) := by decide +kernel
theorem dX4_net_35 : decode cX4_net 35 = .ok (.getfield 17, 3) := by decide +kernel
theorem dX4_net_38 : decode cX4_net 38 = .ok (.iload_n 1, 1) := by decide +kernel
theorem dX4_net_39 : decode cX4_net 39 = .ok (.iconst 4, 1) := by decide +kernel
theorem dX4_net_40 : decode cX4_net 40 = .ok (.imul, 1) := by decide +kernel
theorem dX4_net_41 : decode cX4_net 41 = .ok (.iload 5, 2) := by decide +kernel
theorem dX4_net_43 : decode cX4_net 43 = .ok (.iadd, 1) := by decide +kernel
theorem dX4_net_44 : decode cX4_net 44 = .ok (.aaload, 1) := by decide +kernel
theorem dX4_net_45 : decode cX4_net 45 = .ok (.iload_n 2, 1) := by decide +kernel
theorem dX4_net_46 : decode cX4_net 46 = .ok (.invokevirtual 184, 3) := by decide +kernel
theorem dX4_net_49 : decode cX4_net 49 = .ok (.ladd, 1) := by decide +kernel
theorem dX4_net_50 : decode cX4_net 50 = .ok (.lstore_n 3, 1) := by decide +kernel
theorem dX4_net_51 : decode cX4_net 51 = .ok (.lload_n 3, 1) := by decide +kernel
theorem dX4_net_52 : decode cX4_net 52 = .ok (.aload_n 0, 1) := by decide +kernel
theorem dX4_net_53 : decode cX4_net 53 = .ok (.aload_n 0, 1) := by decide +kernel
theorem dX4_net_54 : decode cX4_net 54 = .ok (.getfield 17, 3) := by decide +kernel
theorem dX4_net_57 : decode cX4_net 57 = .ok (.iload 5, 2) := by decide +kernel
theorem dX4_net_59 : decode cX4_net 59 = .ok (.iconst 4, 1) := by decide +kernel
theorem dX4_net_60 : decode cX4_net 60 = .ok (.imul, 1) := by decide +kernel
theorem dX4_net_61 : decode cX4_net 61 = .ok (.iload_n 1, 1) := by decide +kernel
theorem dX4_net_62 : decode cX4_net 62 = .ok (.iadd, 1) := by decide +kernel
theorem dX4_net_63 : decode cX4_net 63 = .ok (.aaload, 1) := by decide +kernel
theorem dX4_net_64 : decode cX4_net 64 = .ok (.iload_n 2, 1) := by decide +kernel
theorem dX4_net_65 : decode cX4_net 65 = .ok (.invokevirtual 184, 3) := by decide +kernel
theorem dX4_net_68 : decode cX4_net 68 = .ok (.lsub, 1) := by decide +kernel
theorem dX4_net_69 : decode cX4_net 69 = .ok (.lstore_n 3, 1) := by decide +kernel
theorem dX4_net_70 : decode cX4_net 70 = .ok (.iinc 5 1, 3) := by decide +kernel
theorem dX4_net_73 : decode cX4_net 73 = .ok (.goto (-53), 3) := by decide +kernel
theorem dX4_net_76 : decode cX4_net 76 = .ok (.lload_n 3, 1) := by decide +kernel
theorem dX4_net_77 : decode cX4_net 77 = .ok (.lreturn, 1) := by decide +kernel
theorem dX4_isOperator_0 : decode cX4_isOperator 0 = .ok (.iload_n 0, 1) := by decide +kernel
theorem dX4_isOperator_1 : decode cX4_isOperator 1 = .ok (.ifCond .lt 12, 3) := by decide +kernel
theorem dX4_isOperator_4 : decode cX4_isOperator 4 = .ok (.iload_n 0, 1) := by decide +kernel
theorem dX4_isOperator_5 : decode cX4_isOperator 5 = .ok (.iconst 4, 1) := by decide +kernel
theorem dX4_isOperator_6 : decode cX4_isOperator 6 = .ok (.if_icmp .ge 7, 3) := by decide +kernel
theorem dX4_isOperator_9 : decode cX4_isOperator 9 = .ok (.iconst 1, 1) := by decide +kernel
theorem dX4_isOperator_10 : decode cX4_isOperator 10 = .ok (.goto 4, 3) := by decide +kernel
theorem dX4_isOperator_13 : decode cX4_isOperator 13 = .ok (.iconst 0, 1) := by decide +kernel
theorem dX4_isOperator_14 : decode cX4_isOperator 14 = .ok (.ireturn, 1) := by decide +kernel
theorem dX4_yearOf_0 : decode cX4_yearOf 0 = .ok (.iload_n 0, 1) := by decide +kernel
theorem dX4_yearOf_1 : decode cX4_yearOf 1 = .ok (.bipush 12, 2) := by decide +kernel
theorem dX4_yearOf_3 : decode cX4_yearOf 3 = .ok (.idiv, 1) := by decide +kernel
theorem dX4_yearOf_4 : decode cX4_yearOf 4 = .ok (.ireturn, 1) := by decide +kernel
theorem dX4_refuseOutside_0 : decode cX4_refuseOutside 0 = .ok (.iload_n 0, 1) := by decide +kernel
theorem dX4_refuseOutside_1 : decode cX4_refuseOutside 1 = .ok (.iload_n 1, 1) := by decide +kernel
theorem dX4_refuseOutside_2 : decode cX4_refuseOutside 2 = .ok (.if_icmp .lt 8, 3) := by decide +kernel
theorem dX4_refuseOutside_5 : decode cX4_refuseOutside 5 = .ok (.iload_n 0, 1) := by decide +kernel
theorem dX4_refuseOutside_6 : decode cX4_refuseOutside 6 = .ok (.iload_n 2, 1) := by decide +kernel
theorem dX4_refuseOutside_7 : decode cX4_refuseOutside 7 = .ok (.if_icmp .le 13, 3) := by decide +kernel
theorem dX4_refuseOutside_10 : decode cX4_refuseOutside 10 = .ok (.new 188, 3) := by decide +kernel
theorem dX4_refuseOutside_13 : decode cX4_refuseOutside 13 = .ok (.dup, 1) := by decide +kernel
theorem dX4_refuseOutside_14 : decode cX4_refuseOutside 14 = .ok (.ldc 190, 2) := by decide +kernel
theorem dX4_refuseOutside_16 : decode cX4_refuseOutside 16 = .ok (.invokespecial 192, 3) := by decide +kernel
theorem dX4_refuseOutside_19 : decode cX4_refuseOutside 19 = .ok (.athrow, 1) := by decide +kernel
theorem dX4_refuseOutside_20 : decode cX4_refuseOutside 20 = .ok (.return_, 1) := by decide +kernel
set_option maxRecDepth 20000 in
theorem ggX4_operatorAt_X4_isOperator : GoodIn wsX4_operatorAt wsX4_isOperator := goodIn_r _ [7] (by decide +kernel) (by decide +kernel)
set_option maxRecDepth 20000 in
theorem gX4_operatorAt_X4_isOperator : GoodIn wsX4_operatorAt (va_wsS RX4 193 yX4_isOperator wsX4_isOperator) := goodIn_app (goodIn_of _ (by decide +kernel)) ggX4_operatorAt_X4_isOperator
theorem dX4_operatorAt_0 : decode cX4_operatorAt 0 = .ok (.iload_n 1, 1) := by decide +kernel
theorem dX4_operatorAt_1 : decode cX4_operatorAt 1 = .ok (.invokestatic 193, 3) := by decide +kernel
theorem dX4_operatorAt_4 : decode cX4_operatorAt 4 = .ok (.ifCond .ne 13, 3) := by decide +kernel
theorem dX4_operatorAt_7 : decode cX4_operatorAt 7 = .ok (.new 197, 3) := by decide +kernel
theorem dX4_operatorAt_10 : decode cX4_operatorAt 10 = .ok (.dup, 1) := by decide +kernel
theorem dX4_operatorAt_11 : decode cX4_operatorAt 11 = .ok (.ldc 199, 2) := by decide +kernel
theorem dX4_operatorAt_13 : decode cX4_operatorAt 13 = .ok (.invokespecial 201, 3) := by decide +kernel
theorem dX4_operatorAt_16 : decode cX4_operatorAt 16 = .ok (.athrow, 1) := by decide +kernel
theorem dX4_operatorAt_17 : decode cX4_operatorAt 17 = .ok (.aload_n 0, 1) := by decide +kernel
theorem dX4_operatorAt_18 : decode cX4_operatorAt 18 = .ok (.getfield 11, 3) := by decide +kernel
theorem dX4_operatorAt_21 : decode cX4_operatorAt 21 = .ok (.iload_n 1, 1) := by decide +kernel
theorem dX4_operatorAt_22 : decode cX4_operatorAt 22 = .ok (.aaload, 1) := by decide +kernel
theorem dX4_operatorAt_23 : decode cX4_operatorAt 23 = .ok (.areturn, 1) := by decide +kernel
set_option maxRecDepth 20000 in
theorem ggX4_pairAt_X4_isOperator : GoodIn wsX4_pairAt wsX4_isOperator := goodIn_r _ [9] (by decide +kernel) (by decide +kernel)
set_option maxRecDepth 20000 in
theorem gX4_pairAt_X4_isOperator : GoodIn wsX4_pairAt (va_wsS RX4 193 yX4_isOperator wsX4_isOperator) := goodIn_app (goodIn_of _ (by decide +kernel)) ggX4_pairAt_X4_isOperator
theorem dX4_pairAt_0 : decode cX4_pairAt 0 = .ok (.iload_n 1, 1) := by decide +kernel
theorem dX4_pairAt_1 : decode cX4_pairAt 1 = .ok (.invokestatic 193, 3) := by decide +kernel
theorem dX4_pairAt_4 : decode cX4_pairAt 4 = .ok (.ifCond .eq 10, 3) := by decide +kernel
theorem dX4_pairAt_7 : decode cX4_pairAt 7 = .ok (.iload_n 2, 1) := by decide +kernel
theorem dX4_pairAt_8 : decode cX4_pairAt 8 = .ok (.invokestatic 193, 3) := by decide +kernel
theorem dX4_pairAt_11 : decode cX4_pairAt 11 = .ok (.ifCond .ne 13, 3) := by decide +kernel
theorem dX4_pairAt_14 : decode cX4_pairAt 14 = .ok (.new 197, 3) := by decide +kernel
theorem dX4_pairAt_17 : decode cX4_pairAt 17 = .ok (.dup, 1) := by decide +kernel
theorem dX4_pairAt_18 : decode cX4_pairAt 18 = .ok (.ldc 199, 2) := by decide +kernel
theorem dX4_pairAt_20 : decode cX4_pairAt 20 = .ok (.invokespecial 201, 3) := by decide +kernel
theorem dX4_pairAt_23 : decode cX4_pairAt 23 = .ok (.athrow, 1) := by decide +kernel
theorem dX4_pairAt_24 : decode cX4_pairAt 24 = .ok (.iload_n 1, 1) := by decide +kernel
theorem dX4_pairAt_25 : decode cX4_pairAt 25 = .ok (.iload_n 2, 1) := by decide +kernel
theorem dX4_pairAt_26 : decode cX4_pairAt 26 = .ok (.if_icmp .ne 13, 3) := by decide +kernel
theorem dX4_pairAt_29 : decode cX4_pairAt 29 = .ok (.new 188, 3) := by decide +kernel
theorem dX4_pairAt_32 : decode cX4_pairAt 32 = .ok (.dup, 1) := by decide +kernel
theorem dX4_pairAt_33 : decode cX4_pairAt 33 = .ok (.ldc 202, 2) := by decide +kernel
theorem dX4_pairAt_35 : decode cX4_pairAt 35 = .ok (.invokespecial 192, 3) := by decide +kernel
theorem dX4_pairAt_38 : decode cX4_pairAt 38 = .ok (.athrow, 1) := by decide +kernel
theorem dX4_pairAt_39 : decode cX4_pairAt 39 = .ok (.aload_n 0, 1) := by decide +kernel
theorem dX4_pairAt_40 : decode cX4_pairAt 40 = .ok (.getfield 17, 3) := by decide +kernel
theorem dX4_pairAt_43 : decode cX4_pairAt 43 = .ok (.iload_n 1, 1) := by decide +kernel
theorem dX4_pairAt_44 : decode cX4_pairAt 44 = .ok (.iconst 4, 1) := by decide +kernel
theorem dX4_pairAt_45 : decode cX4_pairAt 45 = .ok (.imul, 1) := by decide +kernel
theorem dX4_pairAt_46 : decode cX4_pairAt 46 = .ok (.iload_n 2, 1) := by decide +kernel
theorem dX4_pairAt_47 : decode cX4_pairAt 47 = .ok (.iadd, 1) := by decide +kernel
theorem dX4_pairAt_48 : decode cX4_pairAt 48 = .ok (.aaload, 1) := by decide +kernel
theorem dX4_pairAt_49 : decode cX4_pairAt 49 = .ok (.areturn, 1) := by decide +kernel
theorem dX4_fileAt_0 : decode cX4_fileAt 0 = .ok (.iload_n 1, 1) := by decide +kernel
theorem dX4_fileAt_1 : decode cX4_fileAt 1 = .ok (.ifCond .lt 11, 3) := by decide +kernel
theorem dX4_fileAt_4 : decode cX4_fileAt 4 = .ok (.iload_n 1, 1) := by decide +kernel
theorem dX4_fileAt_5 : decode cX4_fileAt 5 = .ok (.aload_n 0, 1) := by decide +kernel
theorem dX4_fileAt_6 : decode cX4_fileAt 6 = .ok (.getfield 27, 3) := by decide +kernel
theorem dX4_fileAt_9 : decode cX4_fileAt 9 = .ok (.if_icmp .lt 13, 3) := by decide +kernel
theorem dX4_fileAt_12 : decode cX4_fileAt 12 = .ok (.new 197, 3) := by decide +kernel
theorem dX4_fileAt_15 : decode cX4_fileAt 15 = .ok (.dup, 1) := by decide +kernel
theorem dX4_fileAt_16 : decode cX4_fileAt 16 = .ok (.ldc 204, 2) := by decide +kernel
theorem dX4_fileAt_18 : decode cX4_fileAt 18 = .ok (.invokespecial 201, 3) := by decide +kernel
theorem dX4_fileAt_21 : decode cX4_fileAt 21 = .ok (.athrow, 1) := by decide +kernel
theorem dX4_fileAt_22 : decode cX4_fileAt 22 = .ok (.aload_n 0, 1) := by decide +kernel
theorem dX4_fileAt_23 : decode cX4_fileAt 23 = .ok (.getfield 23, 3) := by decide +kernel
theorem dX4_fileAt_26 : decode cX4_fileAt 26 = .ok (.iload_n 1, 1) := by decide +kernel
theorem dX4_fileAt_27 : decode cX4_fileAt 27 = .ok (.aaload, 1) := by decide +kernel
theorem dX4_fileAt_28 : decode cX4_fileAt 28 = .ok (.areturn, 1) := by decide +kernel
theorem dX4_callAt_0 : decode cX4_callAt 0 = .ok (.iload_n 1, 1) := by decide +kernel
theorem dX4_callAt_1 : decode cX4_callAt 1 = .ok (.ifCond .lt 11, 3) := by decide +kernel
theorem dX4_callAt_4 : decode cX4_callAt 4 = .ok (.iload_n 1, 1) := by decide +kernel
theorem dX4_callAt_5 : decode cX4_callAt 5 = .ok (.aload_n 0, 1) := by decide +kernel
theorem dX4_callAt_6 : decode cX4_callAt 6 = .ok (.getfield 37, 3) := by decide +kernel
theorem dX4_callAt_9 : decode cX4_callAt 9 = .ok (.if_icmp .lt 13, 3) := by decide +kernel
theorem dX4_callAt_12 : decode cX4_callAt 12 = .ok (.new 197, 3) := by decide +kernel
theorem dX4_callAt_15 : decode cX4_callAt 15 = .ok (.dup, 1) := by decide +kernel
theorem dX4_callAt_16 : decode cX4_callAt 16 = .ok (.ldc 206, 2) := by decide +kernel
theorem dX4_callAt_18 : decode cX4_callAt 18 = .ok (.invokespecial 201, 3) := by decide +kernel
theorem dX4_callAt_21 : decode cX4_callAt 21 = .ok (.athrow, 1) := by decide +kernel
theorem dX4_callAt_22 : decode cX4_callAt 22 = .ok (.aload_n 0, 1) := by decide +kernel
theorem dX4_callAt_23 : decode cX4_callAt 23 = .ok (.getfield 33, 3) := by decide +kernel
theorem dX4_callAt_26 : decode cX4_callAt 26 = .ok (.iload_n 1, 1) := by decide +kernel
theorem dX4_callAt_27 : decode cX4_callAt 27 = .ok (.aaload, 1) := by decide +kernel
theorem dX4_callAt_28 : decode cX4_callAt 28 = .ok (.areturn, 1) := by decide +kernel
theorem dX4_waitingFile_0 : decode cX4_waitingFile 0 = .ok (.iconst 0, 1) := by decide +kernel
theorem dX4_waitingFile_1 : decode cX4_waitingFile 1 = .ok (.istore_n 3, 1) := by decide +kernel
theorem dX4_waitingFile_2 : decode cX4_waitingFile 2 = .ok (.iload_n 3, 1) := by decide +kernel
theorem dX4_waitingFile_3 : decode cX4_waitingFile 3 = .ok (.aload_n 0, 1) := by decide +kernel
theorem dX4_waitingFile_4 : decode cX4_waitingFile 4 = .ok (.getfield 27, 3) := by decide +kernel
theorem dX4_waitingFile_7 : decode cX4_waitingFile 7 = .ok (.if_icmp .ge 47, 3) := by decide +kernel
theorem dX4_waitingFile_10 : decode cX4_waitingFile 10 = .ok (.aload_n 0, 1) := by decide +kernel
theorem dX4_waitingFile_11 : decode cX4_waitingFile 11 = .ok (.getfield 23, 3) := by decide +kernel
theorem dX4_waitingFile_14 : decode cX4_waitingFile 14 = .ok (.iload_n 3, 1) := by decide +kernel
theorem dX4_waitingFile_15 : decode cX4_waitingFile 15 = .ok (.aaload, 1) := by decide +kernel
theorem dX4_waitingFile_16 : decode cX4_waitingFile 16 = .ok (.astore 4, 2) := by decide +kernel
theorem dX4_waitingFile_18 : decode cX4_waitingFile 18 = .ok (.aload 4, 2) := by decide +kernel
theorem dX4_waitingFile_20 : decode cX4_waitingFile 20 = .ok (.getfield 103, 3) := by decide +kernel
theorem dX4_waitingFile_23 : decode cX4_waitingFile 23 = .ok (.aload_n 1, 1) := by decide +kernel
theorem dX4_waitingFile_24 : decode cX4_waitingFile 24 = .ok (.if_acmp .ne 24, 3) := by decide +kernel
theorem dX4_waitingFile_27 : decode cX4_waitingFile 27 = .ok (.aload 4, 2) := by decide +kernel
theorem dX4_waitingFile_29 : decode cX4_waitingFile 29 = .ok (.getfield 88, 3) := by decide +kernel
theorem dX4_waitingFile_32 : decode cX4_waitingFile 32 = .ok (.iconst 2, 1) := by decide +kernel
theorem dX4_waitingFile_33 : decode cX4_waitingFile 33 = .ok (.if_icmp .ne 15, 3) := by decide +kernel
theorem dX4_waitingFile_36 : decode cX4_waitingFile 36 = .ok (.aload 4, 2) := by decide +kernel
theorem dX4_waitingFile_38 : decode cX4_waitingFile 38 = .ok (.getfield 114, 3) := by decide +kernel
theorem dX4_waitingFile_41 : decode cX4_waitingFile 41 = .ok (.iload_n 2, 1) := by decide +kernel
theorem dX4_waitingFile_42 : decode cX4_waitingFile 42 = .ok (.if_icmp .ne 6, 3) := by decide +kernel
theorem dX4_waitingFile_45 : decode cX4_waitingFile 45 = .ok (.aload 4, 2) := by decide +kernel
theorem dX4_waitingFile_47 : decode cX4_waitingFile 47 = .ok (.areturn, 1) := by decide +kernel
theorem dX4_waitingFile_48 : decode cX4_waitingFile 48 = .ok (.iinc 3 1, 3) := by decide +kernel
theorem dX4_waitingFile_51 : decode cX4_waitingFile 51 = .ok (.goto (-49), 3) := by decide +kernel
theorem dX4_waitingFile_54 : decode cX4_waitingFile 54 = .ok (.aconst_null, 1) := by decide +kernel
theorem dX4_waitingFile_55 : decode cX4_waitingFile 55 = .ok (.areturn, 1) := by decide +kernel
set_option maxRecDepth 20000 in
theorem ggX4_lookAtAllFrom_X4_lookAt : GoodIn wsX4_lookAtAllFrom wsX4_lookAt := goodIn_r _ [7, 8, 9, 10, 11, 12, 13, 14, 6, 15, 16, 17, 18, 19, 20, 21, 22, 23, 24, 25, 26, 27, 28, 29, 30, 31, 32, 33, 34, 35, 36, 37, 38, 39, 40, 41, 42, 43, 44, 45, 46, 47, 48, 49, 50, 70, 71, 72, 73, 74, 75, 76, 58, 59, 60, 61, 62, 77, 78, 79, 80, 81, 82, 83, 63, 64, 65, 66, 67, 68, 69, 84, 85, 86, 87] (by decide +kernel) (by decide +kernel)
set_option maxRecDepth 20000 in
theorem gX4_lookAtAllFrom_X4_lookAt : GoodIn wsX4_lookAtAllFrom (wsV RX4 208 RX4 yX4_lookAt wsX4_lookAt) := goodIn_app (goodIn_of _ (by decide +kernel)) ggX4_lookAtAllFrom_X4_lookAt
set_option maxRecDepth 20000 in
theorem ggX4_lookAtAllFrom_X4_waitingFile : GoodIn wsX4_lookAtAllFrom wsX4_waitingFile := goodIn_r _ [54, 55, 56, 1, 10, 57, 70, 71, 72, 73, 74, 75, 76, 58, 59, 60, 61, 62] (by decide +kernel) (by decide +kernel)
set_option maxRecDepth 20000 in
theorem gX4_lookAtAllFrom_X4_waitingFile : GoodIn wsX4_lookAtAllFrom (wsV RX4 110 RX4 yX4_waitingFile wsX4_waitingFile) := goodIn_app (goodIn_of _ (by decide +kernel)) ggX4_lookAtAllFrom_X4_waitingFile
theorem dX4_lookAtAllFrom_0 : decode cX4_lookAtAllFrom 0 = .ok (.aload_n 1, 1) := by decide +kernel
theorem dX4_lookAtAllFrom_1 : decode cX4_lookAtAllFrom 1 = .ok (.getfield 103, 3) := by decide +kernel
theorem dX4_lookAtAllFrom_4 : decode cX4_lookAtAllFrom 4 = .ok (.astore_n 2, 1) := by decide +kernel
theorem dX4_lookAtAllFrom_5 : decode cX4_lookAtAllFrom 5 = .ok (.aload_n 1, 1) := by decide +kernel
theorem dX4_lookAtAllFrom_6 : decode cX4_lookAtAllFrom 6 = .ok (.astore_n 3, 1) := by decide +kernel
theorem dX4_lookAtAllFrom_7 : decode cX4_lookAtAllFrom 7 = .ok (.iconst 0, 1) := by decide +kernel
theorem dX4_lookAtAllFrom_8 : decode cX4_lookAtAllFrom 8 = .ok (.istore 4, 2) := by decide +kernel
theorem dX4_lookAtAllFrom_10 : decode cX4_lookAtAllFrom 10 = .ok (.iload 4, 2) := by decide +kernel
theorem dX4_lookAtAllFrom_12 : decode cX4_lookAtAllFrom 12 = .ok (.bipush 30, 2) := by decide +kernel
theorem dX4_lookAtAllFrom_14 : decode cX4_lookAtAllFrom 14 = .ok (.if_icmp .ge 38, 3) := by decide +kernel
theorem dX4_lookAtAllFrom_17 : decode cX4_lookAtAllFrom 17 = .ok (.aload_n 3, 1) := by decide +kernel
theorem dX4_lookAtAllFrom_18 : decode cX4_lookAtAllFrom 18 = .ok (.ifnull 34, 3) := by decide +kernel
theorem dX4_lookAtAllFrom_21 : decode cX4_lookAtAllFrom 21 = .ok (.aload_n 0, 1) := by decide +kernel
theorem dX4_lookAtAllFrom_22 : decode cX4_lookAtAllFrom 22 = .ok (.aload_n 3, 1) := by decide +kernel
theorem dX4_lookAtAllFrom_23 : decode cX4_lookAtAllFrom 23 = .ok (.invokevirtual 208, 3) := by decide +kernel
theorem dX4_lookAtAllFrom_26 : decode cX4_lookAtAllFrom 26 = .ok (.aload_n 2, 1) := by decide +kernel
theorem dX4_lookAtAllFrom_27 : decode cX4_lookAtAllFrom 27 = .ok (.dup, 1) := by decide +kernel
theorem dX4_lookAtAllFrom_28 : decode cX4_lookAtAllFrom 28 = .ok (.getfield 107, 3) := by decide +kernel
theorem dX4_lookAtAllFrom_31 : decode cX4_lookAtAllFrom 31 = .ok (.iconst 1, 1) := by decide +kernel
theorem dX4_lookAtAllFrom_32 : decode cX4_lookAtAllFrom 32 = .ok (.iadd, 1) := by decide +kernel
theorem dX4_lookAtAllFrom_33 : decode cX4_lookAtAllFrom 33 = .ok (.putfield 107, 3) := by decide +kernel
theorem dX4_lookAtAllFrom_36 : decode cX4_lookAtAllFrom 36 = .ok (.aload_n 0, 1) := by decide +kernel
theorem dX4_lookAtAllFrom_37 : decode cX4_lookAtAllFrom 37 = .ok (.aload_n 2, 1) := by decide +kernel
theorem dX4_lookAtAllFrom_38 : decode cX4_lookAtAllFrom 38 = .ok (.aload_n 2, 1) := by decide +kernel
theorem dX4_lookAtAllFrom_39 : decode cX4_lookAtAllFrom 39 = .ok (.getfield 107, 3) := by decide +kernel
theorem dX4_lookAtAllFrom_42 : decode cX4_lookAtAllFrom 42 = .ok (.invokevirtual 110, 3) := by decide +kernel
theorem dX4_lookAtAllFrom_45 : decode cX4_lookAtAllFrom 45 = .ok (.astore_n 3, 1) := by decide +kernel
theorem dX4_lookAtAllFrom_46 : decode cX4_lookAtAllFrom 46 = .ok (.iinc 4 1, 3) := by decide +kernel
theorem dX4_lookAtAllFrom_49 : decode cX4_lookAtAllFrom 49 = .ok (.goto (-39), 3) := by decide +kernel
theorem dX4_lookAtAllFrom_52 : decode cX4_lookAtAllFrom 52 = .ok (.return_, 1) := by decide +kernel
set_option maxRecDepth 20000 in
theorem ggX4_lookAt_X4_wrongCallsOf : GoodIn wsX4_lookAt wsX4_wrongCallsOf := goodIn_r _ [9, 10, 11, 12, 13, 14, 15, 16, 17, 18, 19, 20, 21, 22, 23, 24, 25, 26, 27, 28, 29, 30, 45, 46, 47, 48, 49, 50, 51, 57, 58, 59, 60, 61, 62, 63, 52, 53, 54, 55, 56, 64, 65, 66, 67, 68, 69, 70, 71, 72, 73, 74] (by decide +kernel) (by decide +kernel)
set_option maxRecDepth 20000 in
theorem gX4_lookAt_X4_wrongCallsOf : GoodIn wsX4_lookAt (wsV RX4 214 RX4 yX4_wrongCallsOf wsX4_wrongCallsOf) := goodIn_app (goodIn_of _ (by decide +kernel)) ggX4_lookAt_X4_wrongCallsOf
set_option maxRecDepth 20000 in
theorem ggX4_lookAt_X4_acceptRightCallsOf : GoodIn wsX4_lookAt wsX4_acceptRightCallsOf := goodIn_r _ [34, 10, 11, 12, 1, 13, 14, 15, 16, 17, 18, 19, 20, 21, 22, 23, 24, 25, 26, 27, 28, 29, 30, 35, 36, 37, 38, 39, 40, 41, 42, 43, 8, 44, 45, 46, 47, 48, 49, 50, 51, 57, 58, 59, 60, 61, 62, 63, 52, 53, 54, 55, 56, 64, 65, 66, 67, 68, 69, 70, 71, 72, 73, 74] (by decide +kernel) (by decide +kernel)
set_option maxRecDepth 20000 in
theorem gX4_lookAt_X4_acceptRightCallsOf : GoodIn wsX4_lookAt (wsV RX4 218 RX4 yX4_acceptRightCallsOf wsX4_acceptRightCallsOf) := goodIn_app (goodIn_of _ (by decide +kernel)) ggX4_lookAt_X4_acceptRightCallsOf
theorem dX4_lookAt_0 : decode cX4_lookAt 0 = .ok (.aload_n 0, 1) := by decide +kernel
theorem dX4_lookAt_1 : decode cX4_lookAt 1 = .ok (.getfield 40, 3) := by decide +kernel
theorem dX4_lookAt_4 : decode cX4_lookAt 4 = .ok (.aload_n 1, 1) := by decide +kernel
theorem dX4_lookAt_5 : decode cX4_lookAt 5 = .ok (.getfield 211, 3) := by decide +kernel
theorem dX4_lookAt_8 : decode cX4_lookAt 8 = .ok (.isub, 1) := by decide +kernel
theorem dX4_lookAt_9 : decode cX4_lookAt 9 = .ok (.iconst 2, 1) := by decide +kernel
theorem dX4_lookAt_10 : decode cX4_lookAt 10 = .ok (.if_icmp .le 11, 3) := by decide +kernel
theorem dX4_lookAt_13 : decode cX4_lookAt 13 = .ok (.aload_n 1, 1) := by decide +kernel
theorem dX4_lookAt_14 : decode cX4_lookAt 14 = .ok (.iconst 3, 1) := by decide +kernel
theorem dX4_lookAt_15 : decode cX4_lookAt 15 = .ok (.putfield 88, 3) := by decide +kernel
theorem dX4_lookAt_18 : decode cX4_lookAt 18 = .ok (.goto 35, 3) := by decide +kernel
theorem dX4_lookAt_21 : decode cX4_lookAt 21 = .ok (.aload_n 0, 1) := by decide +kernel
theorem dX4_lookAt_22 : decode cX4_lookAt 22 = .ok (.aload_n 1, 1) := by decide +kernel
theorem dX4_lookAt_23 : decode cX4_lookAt 23 = .ok (.invokevirtual 214, 3) := by decide +kernel
theorem dX4_lookAt_26 : decode cX4_lookAt 26 = .ok (.iconst 3, 1) := by decide +kernel
theorem dX4_lookAt_27 : decode cX4_lookAt 27 = .ok (.imul, 1) := by decide +kernel
theorem dX4_lookAt_28 : decode cX4_lookAt 28 = .ok (.aload_n 1, 1) := by decide +kernel
theorem dX4_lookAt_29 : decode cX4_lookAt 29 = .ok (.getfield 98, 3) := by decide +kernel
theorem dX4_lookAt_32 : decode cX4_lookAt 32 = .ok (.if_icmp .le 11, 3) := by decide +kernel
theorem dX4_lookAt_35 : decode cX4_lookAt 35 = .ok (.aload_n 1, 1) := by decide +kernel
theorem dX4_lookAt_36 : decode cX4_lookAt 36 = .ok (.iconst 4, 1) := by decide +kernel
theorem dX4_lookAt_37 : decode cX4_lookAt 37 = .ok (.putfield 88, 3) := by decide +kernel
theorem dX4_lookAt_40 : decode cX4_lookAt 40 = .ok (.goto 13, 3) := by decide +kernel
theorem dX4_lookAt_43 : decode cX4_lookAt 43 = .ok (.aload_n 1, 1) := by decide +kernel
theorem dX4_lookAt_44 : decode cX4_lookAt 44 = .ok (.iconst 5, 1) := by decide +kernel
theorem dX4_lookAt_45 : decode cX4_lookAt 45 = .ok (.putfield 88, 3) := by decide +kernel
theorem dX4_lookAt_48 : decode cX4_lookAt 48 = .ok (.aload_n 0, 1) := by decide +kernel
theorem dX4_lookAt_49 : decode cX4_lookAt 49 = .ok (.aload_n 1, 1) := by decide +kernel
theorem dX4_lookAt_50 : decode cX4_lookAt 50 = .ok (.invokevirtual 218, 3) := by decide +kernel
theorem dX4_lookAt_53 : decode cX4_lookAt 53 = .ok (.return_, 1) := by decide +kernel
set_option maxRecDepth 20000 in
theorem ggX4_wrongCallsOf_X0_isRight : GoodIn wsX4_wrongCallsOf wsX0_isRight := goodIn_r _ [8, 9, 10, 11, 12, 13, 14, 15, 16, 17, 18, 19, 20, 21, 29, 30, 31, 32, 33, 34, 35, 36, 37, 38, 39, 40, 41, 42, 43, 44, 45, 46, 47, 48, 49, 50, 51] (by decide +kernel) (by decide +kernel)
set_option maxRecDepth 20000 in
theorem gX4_wrongCallsOf_X0_isRight : GoodIn wsX4_wrongCallsOf (wsV RX4 225 RX0 yX0_isRight wsX0_isRight) := goodIn_app (goodIn_of _ (by decide +kernel)) ggX4_wrongCallsOf_X0_isRight
theorem dX4_wrongCallsOf_0 : decode cX4_wrongCallsOf 0 = .ok (.iconst 0, 1) := by decide +kernel
theorem dX4_wrongCallsOf_1 : decode cX4_wrongCallsOf 1 = .ok (.istore_n 2, 1) := by decide +kernel
theorem dX4_wrongCallsOf_2 : decode cX4_wrongCallsOf 2 = .ok (.iconst 0, 1) := by decide +kernel
theorem dX4_wrongCallsOf_3 : decode cX4_wrongCallsOf 3 = .ok (.istore_n 3, 1) := by decide +kernel
theorem dX4_wrongCallsOf_4 : decode cX4_wrongCallsOf 4 = .ok (.iload_n 3, 1) := by decide +kernel
theorem dX4_wrongCallsOf_5 : decode cX4_wrongCallsOf 5 = .ok (.aload_n 0, 1) := by decide +kernel
theorem dX4_wrongCallsOf_6 : decode cX4_wrongCallsOf 6 = .ok (.getfield 37, 3) := by decide +kernel
theorem dX4_wrongCallsOf_9 : decode cX4_wrongCallsOf 9 = .ok (.if_icmp .ge 37, 3) := by decide +kernel
theorem dX4_wrongCallsOf_12 : decode cX4_wrongCallsOf 12 = .ok (.aload_n 0, 1) := by decide +kernel
theorem dX4_wrongCallsOf_13 : decode cX4_wrongCallsOf 13 = .ok (.getfield 33, 3) := by decide +kernel
theorem dX4_wrongCallsOf_16 : decode cX4_wrongCallsOf 16 = .ok (.iload_n 3, 1) := by decide +kernel
theorem dX4_wrongCallsOf_17 : decode cX4_wrongCallsOf 17 = .ok (.aaload, 1) := by decide +kernel
theorem dX4_wrongCallsOf_18 : decode cX4_wrongCallsOf 18 = .ok (.astore 4, 2) := by decide +kernel
theorem dX4_wrongCallsOf_20 : decode cX4_wrongCallsOf 20 = .ok (.aload 4, 2) := by decide +kernel
theorem dX4_wrongCallsOf_22 : decode cX4_wrongCallsOf 22 = .ok (.getfield 221, 3) := by decide +kernel
theorem dX4_wrongCallsOf_25 : decode cX4_wrongCallsOf 25 = .ok (.aload_n 1, 1) := by decide +kernel
theorem dX4_wrongCallsOf_26 : decode cX4_wrongCallsOf 26 = .ok (.if_acmp .ne 14, 3) := by decide +kernel
theorem dX4_wrongCallsOf_29 : decode cX4_wrongCallsOf 29 = .ok (.aload 4, 2) := by decide +kernel
theorem dX4_wrongCallsOf_31 : decode cX4_wrongCallsOf 31 = .ok (.invokevirtual 225, 3) := by decide +kernel
theorem dX4_wrongCallsOf_34 : decode cX4_wrongCallsOf 34 = .ok (.ifCond .ne 6, 3) := by decide +kernel
theorem dX4_wrongCallsOf_37 : decode cX4_wrongCallsOf 37 = .ok (.iinc 2 1, 3) := by decide +kernel
theorem dX4_wrongCallsOf_40 : decode cX4_wrongCallsOf 40 = .ok (.iinc 3 1, 3) := by decide +kernel
theorem dX4_wrongCallsOf_43 : decode cX4_wrongCallsOf 43 = .ok (.goto (-39), 3) := by decide +kernel
theorem dX4_wrongCallsOf_46 : decode cX4_wrongCallsOf 46 = .ok (.iload_n 2, 1) := by decide +kernel
theorem dX4_wrongCallsOf_47 : decode cX4_wrongCallsOf 47 = .ok (.ireturn, 1) := by decide +kernel
set_option maxRecDepth 20000 in
theorem ggX4_acceptRightCallsOf_X0_isRight : GoodIn wsX4_acceptRightCallsOf wsX0_isRight := goodIn_r _ [9, 10, 11, 12, 13, 14, 15, 16, 17, 18, 19, 20, 21, 22, 41, 42, 43, 44, 45, 46, 47, 48, 49, 50, 51, 52, 53, 54, 55, 56, 57, 58, 59, 60, 61, 62, 63] (by decide +kernel) (by decide +kernel)
set_option maxRecDepth 20000 in
theorem gX4_acceptRightCallsOf_X0_isRight : GoodIn wsX4_acceptRightCallsOf (wsV RX4 225 RX0 yX0_isRight wsX0_isRight) := goodIn_app (goodIn_of _ (by decide +kernel)) ggX4_acceptRightCallsOf_X0_isRight
set_option maxRecDepth 20000 in
theorem ggX4_acceptRightCallsOf_X0_acceptIn : GoodIn wsX4_acceptRightCallsOf wsX0_acceptIn := goodIn_r _ [26, 27, 28, 11, 12, 29, 30, 14, 31, 32, 33, 41, 42, 43, 44, 45, 46, 47, 48, 49, 50, 51, 52, 53, 54, 55, 56, 57, 58, 59] (by decide +kernel) (by decide +kernel)
set_option maxRecDepth 20000 in
theorem gX4_acceptRightCallsOf_X0_acceptIn : GoodIn wsX4_acceptRightCallsOf (wsV RX4 229 RX0 yX0_acceptIn wsX0_acceptIn) := goodIn_app (goodIn_of _ (by decide +kernel)) ggX4_acceptRightCallsOf_X0_acceptIn
theorem dX4_acceptRightCallsOf_0 : decode cX4_acceptRightCallsOf 0 = .ok (.iconst 0, 1) := by decide +kernel
theorem dX4_acceptRightCallsOf_1 : decode cX4_acceptRightCallsOf 1 = .ok (.istore_n 2, 1) := by decide +kernel
theorem dX4_acceptRightCallsOf_2 : decode cX4_acceptRightCallsOf 2 = .ok (.iload_n 2, 1) := by decide +kernel
theorem dX4_acceptRightCallsOf_3 : decode cX4_acceptRightCallsOf 3 = .ok (.aload_n 0, 1) := by decide +kernel
theorem dX4_acceptRightCallsOf_4 : decode cX4_acceptRightCallsOf 4 = .ok (.getfield 37, 3) := by decide +kernel
theorem dX4_acceptRightCallsOf_7 : decode cX4_acceptRightCallsOf 7 = .ok (.if_icmp .ge 39, 3) := by decide +kernel
theorem dX4_acceptRightCallsOf_10 : decode cX4_acceptRightCallsOf 10 = .ok (.aload_n 0, 1) := by decide +kernel
theorem dX4_acceptRightCallsOf_11 : decode cX4_acceptRightCallsOf 11 = .ok (.getfield 33, 3) := by decide +kernel
theorem dX4_acceptRightCallsOf_14 : decode cX4_acceptRightCallsOf 14 = .ok (.iload_n 2, 1) := by decide +kernel
theorem dX4_acceptRightCallsOf_15 : decode cX4_acceptRightCallsOf 15 = .ok (.aaload, 1) := by decide +kernel
theorem dX4_acceptRightCallsOf_16 : decode cX4_acceptRightCallsOf 16 = .ok (.astore_n 3, 1) := by decide +kernel
theorem dX4_acceptRightCallsOf_17 : decode cX4_acceptRightCallsOf 17 = .ok (.aload_n 3, 1) := by decide +kernel
theorem dX4_acceptRightCallsOf_18 : decode cX4_acceptRightCallsOf 18 = .ok (.getfield 221, 3) := by decide +kernel
theorem dX4_acceptRightCallsOf_21 : decode cX4_acceptRightCallsOf 21 = .ok (.aload_n 1, 1) := by decide +kernel
theorem dX4_acceptRightCallsOf_22 : decode cX4_acceptRightCallsOf 22 = .ok (.if_acmp .ne 18, 3) := by decide +kernel
theorem dX4_acceptRightCallsOf_25 : decode cX4_acceptRightCallsOf 25 = .ok (.aload_n 3, 1) := by decide +kernel
theorem dX4_acceptRightCallsOf_26 : decode cX4_acceptRightCallsOf 26 = .ok (.invokevirtual 225, 3) := by decide +kernel
theorem dX4_acceptRightCallsOf_29 : decode cX4_acceptRightCallsOf 29 = .ok (.ifCond .eq 11, 3) := by decide +kernel
theorem dX4_acceptRightCallsOf_32 : decode cX4_acceptRightCallsOf 32 = .ok (.aload_n 3, 1) := by decide +kernel
theorem dX4_acceptRightCallsOf_33 : decode cX4_acceptRightCallsOf 33 = .ok (.aload_n 0, 1) := by decide +kernel
theorem dX4_acceptRightCallsOf_34 : decode cX4_acceptRightCallsOf 34 = .ok (.getfield 40, 3) := by decide +kernel
theorem dX4_acceptRightCallsOf_37 : decode cX4_acceptRightCallsOf 37 = .ok (.invokevirtual 229, 3) := by decide +kernel
theorem dX4_acceptRightCallsOf_40 : decode cX4_acceptRightCallsOf 40 = .ok (.iinc 2 1, 3) := by decide +kernel
theorem dX4_acceptRightCallsOf_43 : decode cX4_acceptRightCallsOf 43 = .ok (.goto (-41), 3) := by decide +kernel
theorem dX4_acceptRightCallsOf_46 : decode cX4_acceptRightCallsOf 46 = .ok (.return_, 1) := by decide +kernel
theorem dX4_giveBackUnanswered_0 : decode cX4_giveBackUnanswered 0 = .ok (.iconst 0, 1) := by decide +kernel
theorem dX4_giveBackUnanswered_1 : decode cX4_giveBackUnanswered 1 = .ok (.istore_n 1, 1) := by decide +kernel
theorem dX4_giveBackUnanswered_2 : decode cX4_giveBackUnanswered 2 = .ok (.iload_n 1, 1) := by decide +kernel
theorem dX4_giveBackUnanswered_3 : decode cX4_giveBackUnanswered 3 = .ok (.aload_n 0, 1) := by decide +kernel
theorem dX4_giveBackUnanswered_4 : decode cX4_giveBackUnanswered 4 = .ok (.getfield 37, 3) := by decide +kernel
theorem dX4_giveBackUnanswered_7 : decode cX4_giveBackUnanswered 7 = .ok (.if_icmp .ge 42, 3) := by decide +kernel
theorem dX4_giveBackUnanswered_10 : decode cX4_giveBackUnanswered 10 = .ok (.aload_n 0, 1) := by decide +kernel
theorem dX4_giveBackUnanswered_11 : decode cX4_giveBackUnanswered 11 = .ok (.getfield 33, 3) := by decide +kernel
theorem dX4_giveBackUnanswered_14 : decode cX4_giveBackUnanswered 14 = .ok (.iload_n 1, 1) := by decide +kernel
theorem dX4_giveBackUnanswered_15 : decode cX4_giveBackUnanswered 15 = .ok (.aaload, 1) := by decide +kernel
theorem dX4_giveBackUnanswered_16 : decode cX4_giveBackUnanswered 16 = .ok (.astore_n 2, 1) := by decide +kernel
theorem dX4_giveBackUnanswered_17 : decode cX4_giveBackUnanswered 17 = .ok (.aload_n 2, 1) := by decide +kernel
theorem dX4_giveBackUnanswered_18 : decode cX4_giveBackUnanswered 18 = .ok (.getfield 131, 3) := by decide +kernel
theorem dX4_giveBackUnanswered_21 : decode cX4_giveBackUnanswered 21 = .ok (.iconst 2, 1) := by decide +kernel
theorem dX4_giveBackUnanswered_22 : decode cX4_giveBackUnanswered 22 = .ok (.if_icmp .ne 21, 3) := by decide +kernel
theorem dX4_giveBackUnanswered_25 : decode cX4_giveBackUnanswered 25 = .ok (.aload_n 0, 1) := by decide +kernel
theorem dX4_giveBackUnanswered_26 : decode cX4_giveBackUnanswered 26 = .ok (.getfield 40, 3) := by decide +kernel
theorem dX4_giveBackUnanswered_29 : decode cX4_giveBackUnanswered 29 = .ok (.aload_n 2, 1) := by decide +kernel
theorem dX4_giveBackUnanswered_30 : decode cX4_giveBackUnanswered 30 = .ok (.getfield 143, 3) := by decide +kernel
theorem dX4_giveBackUnanswered_33 : decode cX4_giveBackUnanswered 33 = .ok (.isub, 1) := by decide +kernel
theorem dX4_giveBackUnanswered_34 : decode cX4_giveBackUnanswered 34 = .ok (.iconst 2, 1) := by decide +kernel
theorem dX4_giveBackUnanswered_35 : decode cX4_giveBackUnanswered 35 = .ok (.if_icmp .lt 8, 3) := by decide +kernel
theorem dX4_giveBackUnanswered_38 : decode cX4_giveBackUnanswered 38 = .ok (.aload_n 2, 1) := by decide +kernel
theorem dX4_giveBackUnanswered_39 : decode cX4_giveBackUnanswered 39 = .ok (.iconst 4, 1) := by decide +kernel
theorem dX4_giveBackUnanswered_40 : decode cX4_giveBackUnanswered 40 = .ok (.putfield 131, 3) := by decide +kernel
theorem dX4_giveBackUnanswered_43 : decode cX4_giveBackUnanswered 43 = .ok (.iinc 1 1, 3) := by decide +kernel
theorem dX4_giveBackUnanswered_46 : decode cX4_giveBackUnanswered 46 = .ok (.goto (-44), 3) := by decide +kernel
theorem dX4_giveBackUnanswered_49 : decode cX4_giveBackUnanswered 49 = .ok (.return_, 1) := by decide +kernel
set_option maxRecDepth 20000 in
theorem ggX4_amountOfMonths_X0_amount : GoodIn wsX4_amountOfMonths wsX0_amount := goodIn_r _ [10, 11, 12, 13, 14, 15, 16, 17, 18, 19, 20, 21, 22, 23, 24, 25, 26, 27, 28, 29, 37, 38, 39, 40, 41, 42, 43, 44, 45, 46, 47, 48, 49, 50, 51, 52, 53, 54, 55] (by decide +kernel) (by decide +kernel)
set_option maxRecDepth 20000 in
theorem gX4_amountOfMonths_X0_amount : GoodIn wsX4_amountOfMonths (wsV RX4 135 RX0 yX0_amount wsX0_amount) := goodIn_app (goodIn_of _ (by decide +kernel)) ggX4_amountOfMonths_X0_amount
theorem dX4_amountOfMonths_0 : decode cX4_amountOfMonths 0 = .ok (.lconst 0, 1) := by decide +kernel
theorem dX4_amountOfMonths_1 : decode cX4_amountOfMonths 1 = .ok (.lstore 4, 2) := by decide +kernel
theorem dX4_amountOfMonths_3 : decode cX4_amountOfMonths 3 = .ok (.iconst 0, 1) := by decide +kernel
theorem dX4_amountOfMonths_4 : decode cX4_amountOfMonths 4 = .ok (.istore 6, 2) := by decide +kernel
theorem dX4_amountOfMonths_6 : decode cX4_amountOfMonths 6 = .ok (.iload 6, 2) := by decide +kernel
theorem dX4_amountOfMonths_8 : decode cX4_amountOfMonths 8 = .ok (.aload_n 0, 1) := by decide +kernel
theorem dX4_amountOfMonths_9 : decode cX4_amountOfMonths 9 = .ok (.getfield 37, 3) := by decide +kernel
theorem dX4_amountOfMonths_12 : decode cX4_amountOfMonths 12 = .ok (.if_icmp .ge 59, 3) := by decide +kernel
theorem dX4_amountOfMonths_15 : decode cX4_amountOfMonths 15 = .ok (.aload_n 0, 1) := by decide +kernel
theorem dX4_amountOfMonths_16 : decode cX4_amountOfMonths 16 = .ok (.getfield 33, 3) := by decide +kernel
theorem dX4_amountOfMonths_19 : decode cX4_amountOfMonths 19 = .ok (.iload 6, 2) := by decide +kernel
theorem dX4_amountOfMonths_21 : decode cX4_amountOfMonths 21 = .ok (.aaload, 1) := by decide +kernel
theorem dX4_amountOfMonths_22 : decode cX4_amountOfMonths 22 = .ok (.astore 7, 2) := by decide +kernel
theorem dX4_amountOfMonths_24 : decode cX4_amountOfMonths 24 = .ok (.aload 7, 2) := by decide +kernel
theorem dX4_amountOfMonths_26 : decode cX4_amountOfMonths 26 = .ok (.getfield 221, 3) := by decide +kernel
theorem dX4_amountOfMonths_29 : decode cX4_amountOfMonths 29 = .ok (.getfield 103, 3) := by decide +kernel
theorem dX4_amountOfMonths_32 : decode cX4_amountOfMonths 32 = .ok (.aload_n 1, 1) := by decide +kernel
theorem dX4_amountOfMonths_33 : decode cX4_amountOfMonths 33 = .ok (.if_acmp .ne 32, 3) := by decide +kernel
theorem dX4_amountOfMonths_36 : decode cX4_amountOfMonths 36 = .ok (.aload 7, 2) := by decide +kernel
theorem dX4_amountOfMonths_38 : decode cX4_amountOfMonths 38 = .ok (.getfield 132, 3) := by decide +kernel
theorem dX4_amountOfMonths_41 : decode cX4_amountOfMonths 41 = .ok (.iload_n 2, 1) := by decide +kernel
theorem dX4_amountOfMonths_42 : decode cX4_amountOfMonths 42 = .ok (.if_icmp .lt 23, 3) := by decide +kernel
theorem dX4_amountOfMonths_45 : decode cX4_amountOfMonths 45 = .ok (.aload 7, 2) := by decide +kernel
theorem dX4_amountOfMonths_47 : decode cX4_amountOfMonths 47 = .ok (.getfield 132, 3) := by decide +kernel
theorem dX4_amountOfMonths_50 : decode cX4_amountOfMonths 50 = .ok (.iload_n 3, 1) := by decide +kernel
theorem dX4_amountOfMonths_51 : decode cX4_amountOfMonths 51 = .ok (.if_icmp .gt 14, 3) := by decide +kernel
theorem dX4_amountOfMonths_54 : decode cX4_amountOfMonths 54 = .ok (.lload 4, 2) := by decide +kernel
theorem dX4_amountOfMonths_56 : decode cX4_amountOfMonths 56 = .ok (.aload 7, 2) := by decide +kernel
theorem dX4_amountOfMonths_58 : decode cX4_amountOfMonths 58 = .ok (.invokevirtual 135, 3) := by decide +kernel
theorem dX4_amountOfMonths_61 : decode cX4_amountOfMonths 61 = .ok (.i2l, 1) := by decide +kernel
theorem dX4_amountOfMonths_62 : decode cX4_amountOfMonths 62 = .ok (.ladd, 1) := by decide +kernel
theorem dX4_amountOfMonths_63 : decode cX4_amountOfMonths 63 = .ok (.lstore 4, 2) := by decide +kernel
theorem dX4_amountOfMonths_65 : decode cX4_amountOfMonths 65 = .ok (.iinc 6 1, 3) := by decide +kernel
theorem dX4_amountOfMonths_68 : decode cX4_amountOfMonths 68 = .ok (.goto (-62), 3) := by decide +kernel
theorem dX4_amountOfMonths_71 : decode cX4_amountOfMonths 71 = .ok (.lload 4, 2) := by decide +kernel
theorem dX4_amountOfMonths_73 : decode cX4_amountOfMonths 73 = .ok (.lreturn, 1) := by decide +kernel
set_option maxRecDepth 20000 in
theorem ggX4_unitsOfMonth_X4_amountOfMonths : GoodIn wsX4_unitsOfMonth wsX4_amountOfMonths := goodIn_r _ [8, 9, 10, 11, 12, 13, 14, 15, 16, 17, 18, 19, 20, 21, 22, 23, 24, 25, 26, 27, 7, 28, 29, 30, 31, 32, 33, 34, 35, 36, 48, 49, 50, 51, 52, 53, 54, 55, 56, 57, 58, 59, 60, 61, 62, 63, 64, 65, 66, 37, 38, 39, 40, 41, 42, 43] (by decide +kernel) (by decide +kernel)
set_option maxRecDepth 20000 in
theorem gX4_unitsOfMonth_X4_amountOfMonths : GoodIn wsX4_unitsOfMonth (wsV RX4 172 RX4 yX4_amountOfMonths wsX4_amountOfMonths) := goodIn_app (goodIn_of _ (by decide +kernel)) ggX4_unitsOfMonth_X4_amountOfMonths
theorem dX4_unitsOfMonth_0 : decode cX4_unitsOfMonth 0 = .ok (.aload_n 0, 1) := by decide +kernel
theorem dX4_unitsOfMonth_1 : decode cX4_unitsOfMonth 1 = .ok (.aload_n 1, 1) := by decide +kernel
theorem dX4_unitsOfMonth_2 : decode cX4_unitsOfMonth 2 = .ok (.iload_n 2, 1) := by decide +kernel
theorem dX4_unitsOfMonth_3 : decode cX4_unitsOfMonth 3 = .ok (.iload_n 2, 1) := by decide +kernel
theorem dX4_unitsOfMonth_4 : decode cX4_unitsOfMonth 4 = .ok (.invokevirtual 172, 3) := by decide +kernel
theorem dX4_unitsOfMonth_7 : decode cX4_unitsOfMonth 7 = .ok (.aload_n 1, 1) := by decide +kernel
theorem dX4_unitsOfMonth_8 : decode cX4_unitsOfMonth 8 = .ok (.getfield 233, 3) := by decide +kernel
theorem dX4_unitsOfMonth_11 : decode cX4_unitsOfMonth 11 = .ok (.getfield 164, 3) := by decide +kernel
theorem dX4_unitsOfMonth_14 : decode cX4_unitsOfMonth 14 = .ok (.i2l, 1) := by decide +kernel
theorem dX4_unitsOfMonth_15 : decode cX4_unitsOfMonth 15 = .ok (.lmul, 1) := by decide +kernel
theorem dX4_unitsOfMonth_16 : decode cX4_unitsOfMonth 16 = .ok (.ldc2_w 237, 3) := by decide +kernel
theorem dX4_unitsOfMonth_19 : decode cX4_unitsOfMonth 19 = .ok (.ldiv, 1) := by decide +kernel
theorem dX4_unitsOfMonth_20 : decode cX4_unitsOfMonth 20 = .ok (.lreturn, 1) := by decide +kernel
theorem dJ9_max_7cf53_0 : decode cJ9_max_7cf53 0 = .ok (.iload_n 0, 1) := by decide +kernel
theorem dJ9_max_7cf53_1 : decode cJ9_max_7cf53 1 = .ok (.iload_n 1, 1) := by decide +kernel
theorem dJ9_max_7cf53_2 : decode cJ9_max_7cf53 2 = .ok (.if_icmp .lt 7, 3) := by decide +kernel
theorem dJ9_max_7cf53_5 : decode cJ9_max_7cf53 5 = .ok (.iload_n 0, 1) := by decide +kernel
theorem dJ9_max_7cf53_6 : decode cJ9_max_7cf53 6 = .ok (.goto 4, 3) := by decide +kernel
theorem dJ9_max_7cf53_9 : decode cJ9_max_7cf53 9 = .ok (.iload_n 1, 1) := by decide +kernel
theorem dJ9_max_7cf53_10 : decode cJ9_max_7cf53 10 = .ok (.ireturn, 1) := by decide +kernel
theorem dJ9_max_f86c9_0 : decode cJ9_max_f86c9 0 = .ok (.lload_n 0, 1) := by decide +kernel
theorem dJ9_max_f86c9_1 : decode cJ9_max_f86c9 1 = .ok (.lload_n 2, 1) := by decide +kernel
theorem dJ9_max_f86c9_2 : decode cJ9_max_f86c9 2 = .ok (.lcmp, 1) := by decide +kernel
theorem dJ9_max_f86c9_3 : decode cJ9_max_f86c9 3 = .ok (.ifCond .lt 7, 3) := by decide +kernel
theorem dJ9_max_f86c9_6 : decode cJ9_max_f86c9 6 = .ok (.lload_n 0, 1) := by decide +kernel
theorem dJ9_max_f86c9_7 : decode cJ9_max_f86c9 7 = .ok (.goto 4, 3) := by decide +kernel
theorem dJ9_max_f86c9_10 : decode cJ9_max_f86c9 10 = .ok (.lload_n 2, 1) := by decide +kernel
theorem dJ9_max_f86c9_11 : decode cJ9_max_f86c9 11 = .ok (.lreturn, 1) := by decide +kernel
theorem dL_charge_0 : decode cL_charge 0 = .ok (.iconst 0, 1) := by decide +kernel
theorem dL_charge_1 : decode cL_charge 1 = .ok (.istore_n 3, 1) := by decide +kernel
theorem dL_charge_2 : decode cL_charge 2 = .ok (.iload_n 2, 1) := by decide +kernel
theorem dL_charge_3 : decode cL_charge 3 = .ok (.istore 4, 2) := by decide +kernel
theorem dL_charge_5 : decode cL_charge 5 = .ok (.iload 4, 2) := by decide +kernel
theorem dL_charge_7 : decode cL_charge 7 = .ok (.ifCond .le 68, 3) := by decide +kernel
theorem dL_charge_10 : decode cL_charge 10 = .ok (.iload_n 3, 1) := by decide +kernel
theorem dL_charge_11 : decode cL_charge 11 = .ok (.iload 4, 2) := by decide +kernel
theorem dL_charge_13 : decode cL_charge 13 = .ok (.sipush 512, 3) := by decide +kernel
theorem dL_charge_16 : decode cL_charge 16 = .ok (.aload_n 0, 1) := by decide +kernel
theorem dL_charge_17 : decode cL_charge 17 = .ok (.iconst 4, 1) := by decide +kernel
theorem dL_charge_18 : decode cL_charge 18 = .ok (.iload_n 1, 1) := by decide +kernel
theorem dL_charge_19 : decode cL_charge 19 = .ok (.imul, 1) := by decide +kernel
theorem dL_charge_20 : decode cL_charge 20 = .ok (.iaload, 1) := by decide +kernel
theorem dL_charge_21 : decode cL_charge 21 = .ok (.imul, 1) := by decide +kernel
theorem dL_charge_22 : decode cL_charge 22 = .ok (.if_icmp .le 9, 3) := by decide +kernel
theorem dL_charge_25 : decode cL_charge 25 = .ok (.sipush 512, 3) := by decide +kernel
theorem dL_charge_28 : decode cL_charge 28 = .ok (.goto 28, 3) := by decide +kernel
theorem dL_charge_31 : decode cL_charge 31 = .ok (.iload 4, 2) := by decide +kernel
theorem dL_charge_33 : decode cL_charge 33 = .ok (.aload_n 0, 1) := by decide +kernel
theorem dL_charge_34 : decode cL_charge 34 = .ok (.iconst 4, 1) := by decide +kernel
theorem dL_charge_35 : decode cL_charge 35 = .ok (.iload_n 1, 1) := by decide +kernel
theorem dL_charge_36 : decode cL_charge 36 = .ok (.imul, 1) := by decide +kernel
theorem dL_charge_37 : decode cL_charge 37 = .ok (.iaload, 1) := by decide +kernel
theorem dL_charge_38 : decode cL_charge 38 = .ok (.idiv, 1) := by decide +kernel
theorem dL_charge_39 : decode cL_charge 39 = .ok (.iload 4, 2) := by decide +kernel
theorem dL_charge_41 : decode cL_charge 41 = .ok (.aload_n 0, 1) := by decide +kernel
theorem dL_charge_42 : decode cL_charge 42 = .ok (.iconst 4, 1) := by decide +kernel
theorem dL_charge_43 : decode cL_charge 43 = .ok (.iload_n 1, 1) := by decide +kernel
theorem dL_charge_44 : decode cL_charge 44 = .ok (.imul, 1) := by decide +kernel
theorem dL_charge_45 : decode cL_charge 45 = .ok (.iaload, 1) := by decide +kernel
theorem dL_charge_46 : decode cL_charge 46 = .ok (.irem, 1) := by decide +kernel
theorem dL_charge_47 : decode cL_charge 47 = .ok (.ifCond .le 7, 3) := by decide +kernel
theorem dL_charge_50 : decode cL_charge 50 = .ok (.iconst 1, 1) := by decide +kernel
theorem dL_charge_51 : decode cL_charge 51 = .ok (.goto 4, 3) := by decide +kernel
theorem dL_charge_54 : decode cL_charge 54 = .ok (.iconst 0, 1) := by decide +kernel
theorem dL_charge_55 : decode cL_charge 55 = .ok (.iadd, 1) := by decide +kernel
theorem dL_charge_56 : decode cL_charge 56 = .ok (.iadd, 1) := by decide +kernel
theorem dL_charge_57 : decode cL_charge 57 = .ok (.istore_n 3, 1) := by decide +kernel
theorem dL_charge_58 : decode cL_charge 58 = .ok (.iload 4, 2) := by decide +kernel
theorem dL_charge_60 : decode cL_charge 60 = .ok (.sipush 512, 3) := by decide +kernel
theorem dL_charge_63 : decode cL_charge 63 = .ok (.aload_n 0, 1) := by decide +kernel
theorem dL_charge_64 : decode cL_charge 64 = .ok (.iconst 4, 1) := by decide +kernel
theorem dL_charge_65 : decode cL_charge 65 = .ok (.iload_n 1, 1) := by decide +kernel
theorem dL_charge_66 : decode cL_charge 66 = .ok (.imul, 1) := by decide +kernel
theorem dL_charge_67 : decode cL_charge 67 = .ok (.iaload, 1) := by decide +kernel
theorem dL_charge_68 : decode cL_charge 68 = .ok (.imul, 1) := by decide +kernel
theorem dL_charge_69 : decode cL_charge 69 = .ok (.isub, 1) := by decide +kernel
theorem dL_charge_70 : decode cL_charge 70 = .ok (.istore 4, 2) := by decide +kernel
theorem dL_charge_72 : decode cL_charge 72 = .ok (.goto (-67), 3) := by decide +kernel
theorem dL_charge_75 : decode cL_charge 75 = .ok (.iload_n 3, 1) := by decide +kernel
theorem dL_charge_76 : decode cL_charge 76 = .ok (.aload_n 0, 1) := by decide +kernel
theorem dL_charge_77 : decode cL_charge 77 = .ok (.iconst 4, 1) := by decide +kernel
theorem dL_charge_78 : decode cL_charge 78 = .ok (.iload_n 1, 1) := by decide +kernel
theorem dL_charge_79 : decode cL_charge 79 = .ok (.imul, 1) := by decide +kernel
theorem dL_charge_80 : decode cL_charge 80 = .ok (.iconst 1, 1) := by decide +kernel
theorem dL_charge_81 : decode cL_charge 81 = .ok (.iadd, 1) := by decide +kernel
theorem dL_charge_82 : decode cL_charge 82 = .ok (.iaload, 1) := by decide +kernel
theorem dL_charge_83 : decode cL_charge 83 = .ok (.imul, 1) := by decide +kernel
theorem dL_charge_84 : decode cL_charge 84 = .ok (.aload_n 0, 1) := by decide +kernel
theorem dL_charge_85 : decode cL_charge 85 = .ok (.iconst 4, 1) := by decide +kernel
theorem dL_charge_86 : decode cL_charge 86 = .ok (.iload_n 1, 1) := by decide +kernel
theorem dL_charge_87 : decode cL_charge 87 = .ok (.imul, 1) := by decide +kernel
theorem dL_charge_88 : decode cL_charge 88 = .ok (.iconst 2, 1) := by decide +kernel
theorem dL_charge_89 : decode cL_charge 89 = .ok (.iadd, 1) := by decide +kernel
theorem dL_charge_90 : decode cL_charge 90 = .ok (.iaload, 1) := by decide +kernel
theorem dL_charge_91 : decode cL_charge 91 = .ok (.iadd, 1) := by decide +kernel
theorem dL_charge_92 : decode cL_charge 92 = .ok (.ireturn, 1) := by decide +kernel
theorem dL_state_0 : decode cL_state 0 = .ok (.aload_n 0, 1) := by decide +kernel
theorem dL_state_1 : decode cL_state 1 = .ok (.iload_n 1, 1) := by decide +kernel
theorem dL_state_2 : decode cL_state 2 = .ok (.iaload, 1) := by decide +kernel
theorem dL_state_3 : decode cL_state 3 = .ok (.bipush 16, 2) := by decide +kernel
theorem dL_state_5 : decode cL_state 5 = .ok (.idiv, 1) := by decide +kernel
theorem dL_state_6 : decode cL_state 6 = .ok (.bipush 8, 2) := by decide +kernel
theorem dL_state_8 : decode cL_state 8 = .ok (.irem, 1) := by decide +kernel
theorem dL_state_9 : decode cL_state 9 = .ok (.ireturn, 1) := by decide +kernel
theorem dL_month_0 : decode cL_month 0 = .ok (.aload_n 0, 1) := by decide +kernel
theorem dL_month_1 : decode cL_month 1 = .ok (.iload_n 1, 1) := by decide +kernel
theorem dL_month_2 : decode cL_month 2 = .ok (.iaload, 1) := by decide +kernel
theorem dL_month_3 : decode cL_month 3 = .ok (.sipush 128, 3) := by decide +kernel
theorem dL_month_6 : decode cL_month 6 = .ok (.idiv, 1) := by decide +kernel
theorem dL_month_7 : decode cL_month 7 = .ok (.bipush 64, 2) := by decide +kernel
theorem dL_month_9 : decode cL_month 9 = .ok (.irem, 1) := by decide +kernel
theorem dL_month_10 : decode cL_month 10 = .ok (.ireturn, 1) := by decide +kernel
theorem dL_pair_0 : decode cL_pair 0 = .ok (.aload_n 1, 1) := by decide +kernel
theorem dL_pair_1 : decode cL_pair 1 = .ok (.iconst 4, 1) := by decide +kernel
theorem dL_pair_2 : decode cL_pair 2 = .ok (.aload_n 0, 1) := by decide +kernel
theorem dL_pair_3 : decode cL_pair 3 = .ok (.iload_n 2, 1) := by decide +kernel
theorem dL_pair_4 : decode cL_pair 4 = .ok (.iaload, 1) := by decide +kernel
theorem dL_pair_5 : decode cL_pair 5 = .ok (.bipush 16, 2) := by decide +kernel
theorem dL_pair_7 : decode cL_pair 7 = .ok (.irem, 1) := by decide +kernel
theorem dL_pair_8 : decode cL_pair 8 = .ok (.imul, 1) := by decide +kernel
theorem dL_pair_9 : decode cL_pair 9 = .ok (.iaload, 1) := by decide +kernel
theorem dL_pair_10 : decode cL_pair 10 = .ok (.ireturn, 1) := by decide +kernel
set_option maxRecDepth 20000 in
theorem ggL_looks_L_charge : GoodIn wsL_looks wsL_charge := goodIn_r _ [4] (by decide +kernel) (by decide +kernel)
set_option maxRecDepth 20000 in
theorem gL_looks_L_charge : GoodIn wsL_looks (va_wsS RL 7 yL_charge wsL_charge) := goodIn_app (goodIn_of _ (by decide +kernel)) ggL_looks_L_charge
theorem dL_looks_0 : decode cL_looks 0 = .ok (.aload_n 2, 1) := by decide +kernel
theorem dL_looks_1 : decode cL_looks 1 = .ok (.iconst 4, 1) := by decide +kernel
theorem dL_looks_2 : decode cL_looks 2 = .ok (.iload 7, 2) := by decide +kernel
theorem dL_looks_4 : decode cL_looks 4 = .ok (.imul, 1) := by decide +kernel
theorem dL_looks_5 : decode cL_looks 5 = .ok (.iaload, 1) := by decide +kernel
theorem dL_looks_6 : decode cL_looks 6 = .ok (.iconst 4, 1) := by decide +kernel
theorem dL_looks_7 : decode cL_looks 7 = .ok (.irem, 1) := by decide +kernel
theorem dL_looks_8 : decode cL_looks 8 = .ok (.istore 8, 2) := by decide +kernel
theorem dL_looks_10 : decode cL_looks 10 = .ok (.iconst 0, 1) := by decide +kernel
theorem dL_looks_11 : decode cL_looks 11 = .ok (.istore 9, 2) := by decide +kernel
theorem dL_looks_13 : decode cL_looks 13 = .ok (.iconst 0, 1) := by decide +kernel
theorem dL_looks_14 : decode cL_looks 14 = .ok (.istore 10, 2) := by decide +kernel
theorem dL_looks_16 : decode cL_looks 16 = .ok (.iconst 0, 1) := by decide +kernel
theorem dL_looks_17 : decode cL_looks 17 = .ok (.istore 11, 2) := by decide +kernel
theorem dL_looks_19 : decode cL_looks 19 = .ok (.iload 11, 2) := by decide +kernel
theorem dL_looks_21 : decode cL_looks 21 = .ok (.aload_n 0, 1) := by decide +kernel
theorem dL_looks_22 : decode cL_looks 22 = .ok (.iconst 1, 1) := by decide +kernel
theorem dL_looks_23 : decode cL_looks 23 = .ok (.iaload, 1) := by decide +kernel
theorem dL_looks_24 : decode cL_looks 24 = .ok (.if_icmp .ge 72, 3) := by decide +kernel
theorem dL_looks_27 : decode cL_looks 27 = .ok (.iload 10, 2) := by decide +kernel
theorem dL_looks_29 : decode cL_looks 29 = .ok (.aload_n 3, 1) := by decide +kernel
theorem dL_looks_30 : decode cL_looks 30 = .ok (.iload 11, 2) := by decide +kernel
theorem dL_looks_32 : decode cL_looks 32 = .ok (.iaload, 1) := by decide +kernel
theorem dL_looks_33 : decode cL_looks 33 = .ok (.bipush 16, 2) := by decide +kernel
theorem dL_looks_35 : decode cL_looks 35 = .ok (.irem, 1) := by decide +kernel
theorem dL_looks_36 : decode cL_looks 36 = .ok (.iload 7, 2) := by decide +kernel
theorem dL_looks_38 : decode cL_looks 38 = .ok (.if_icmp .ne 7, 3) := by decide +kernel
theorem dL_looks_41 : decode cL_looks 41 = .ok (.iconst 1, 1) := by decide +kernel
theorem dL_looks_42 : decode cL_looks 42 = .ok (.goto 4, 3) := by decide +kernel
theorem dL_looks_45 : decode cL_looks 45 = .ok (.iconst 0, 1) := by decide +kernel
theorem dL_looks_46 : decode cL_looks 46 = .ok (.iadd, 1) := by decide +kernel
theorem dL_looks_47 : decode cL_looks 47 = .ok (.istore 10, 2) := by decide +kernel
theorem dL_looks_49 : decode cL_looks 49 = .ok (.iload 9, 2) := by decide +kernel
theorem dL_looks_51 : decode cL_looks 51 = .ok (.aload_n 3, 1) := by decide +kernel
theorem dL_looks_52 : decode cL_looks 52 = .ok (.iload 11, 2) := by decide +kernel
theorem dL_looks_54 : decode cL_looks 54 = .ok (.iaload, 1) := by decide +kernel
theorem dL_looks_55 : decode cL_looks 55 = .ok (.bipush 16, 2) := by decide +kernel
theorem dL_looks_57 : decode cL_looks 57 = .ok (.irem, 1) := by decide +kernel
theorem dL_looks_58 : decode cL_looks 58 = .ok (.iload 7, 2) := by decide +kernel
theorem dL_looks_60 : decode cL_looks 60 = .ok (.if_icmp .ne 26, 3) := by decide +kernel
theorem dL_looks_63 : decode cL_looks 63 = .ok (.aload_n 1, 1) := by decide +kernel
theorem dL_looks_64 : decode cL_looks 64 = .ok (.iload 8, 2) := by decide +kernel
theorem dL_looks_66 : decode cL_looks 66 = .ok (.aload 4, 2) := by decide +kernel
theorem dL_looks_68 : decode cL_looks 68 = .ok (.iload 11, 2) := by decide +kernel
theorem dL_looks_70 : decode cL_looks 70 = .ok (.iaload, 1) := by decide +kernel
theorem dL_looks_71 : decode cL_looks 71 = .ok (.invokestatic 7, 3) := by decide +kernel
theorem dL_looks_74 : decode cL_looks 74 = .ok (.aload 5, 2) := by decide +kernel
theorem dL_looks_76 : decode cL_looks 76 = .ok (.iload 11, 2) := by decide +kernel
theorem dL_looks_78 : decode cL_looks 78 = .ok (.iaload, 1) := by decide +kernel
theorem dL_looks_79 : decode cL_looks 79 = .ok (.if_icmp .ne 7, 3) := by decide +kernel
theorem dL_looks_82 : decode cL_looks 82 = .ok (.iconst 1, 1) := by decide +kernel
theorem dL_looks_83 : decode cL_looks 83 = .ok (.goto 4, 3) := by decide +kernel
theorem dL_looks_86 : decode cL_looks 86 = .ok (.iconst 0, 1) := by decide +kernel
theorem dL_looks_87 : decode cL_looks 87 = .ok (.iadd, 1) := by decide +kernel
theorem dL_looks_88 : decode cL_looks 88 = .ok (.istore 9, 2) := by decide +kernel
theorem dL_looks_90 : decode cL_looks 90 = .ok (.iinc 11 1, 3) := by decide +kernel
theorem dL_looks_93 : decode cL_looks 93 = .ok (.goto (-74), 3) := by decide +kernel
theorem dL_looks_96 : decode cL_looks 96 = .ok (.aload_n 2, 1) := by decide +kernel
theorem dL_looks_97 : decode cL_looks 97 = .ok (.iconst 4, 1) := by decide +kernel
theorem dL_looks_98 : decode cL_looks 98 = .ok (.iload 7, 2) := by decide +kernel
theorem dL_looks_100 : decode cL_looks 100 = .ok (.imul, 1) := by decide +kernel
theorem dL_looks_101 : decode cL_looks 101 = .ok (.iconst 2, 1) := by decide +kernel
theorem dL_looks_102 : decode cL_looks 102 = .ok (.iadd, 1) := by decide +kernel
theorem dL_looks_103 : decode cL_looks 103 = .ok (.aload_n 0, 1) := by decide +kernel
theorem dL_looks_104 : decode cL_looks 104 = .ok (.iconst 3, 1) := by decide +kernel
theorem dL_looks_105 : decode cL_looks 105 = .ok (.iaload, 1) := by decide +kernel
theorem dL_looks_106 : decode cL_looks 106 = .ok (.aload_n 2, 1) := by decide +kernel
theorem dL_looks_107 : decode cL_looks 107 = .ok (.iconst 4, 1) := by decide +kernel
theorem dL_looks_108 : decode cL_looks 108 = .ok (.iload 7, 2) := by decide +kernel
theorem dL_looks_110 : decode cL_looks 110 = .ok (.imul, 1) := by decide +kernel
theorem dL_looks_111 : decode cL_looks 111 = .ok (.iconst 1, 1) := by decide +kernel
theorem dL_looks_112 : decode cL_looks 112 = .ok (.iadd, 1) := by decide +kernel
theorem dL_looks_113 : decode cL_looks 113 = .ok (.iaload, 1) := by decide +kernel
theorem dL_looks_114 : decode cL_looks 114 = .ok (.isub, 1) := by decide +kernel
theorem dL_looks_115 : decode cL_looks 115 = .ok (.iconst 2, 1) := by decide +kernel
theorem dL_looks_116 : decode cL_looks 116 = .ok (.if_icmp .le 7, 3) := by decide +kernel
theorem dL_looks_119 : decode cL_looks 119 = .ok (.iconst 3, 1) := by decide +kernel
theorem dL_looks_120 : decode cL_looks 120 = .ok (.goto 19, 3) := by decide +kernel
theorem dL_looks_123 : decode cL_looks 123 = .ok (.iconst 3, 1) := by decide +kernel
theorem dL_looks_124 : decode cL_looks 124 = .ok (.iload 9, 2) := by decide +kernel
theorem dL_looks_126 : decode cL_looks 126 = .ok (.imul, 1) := by decide +kernel
theorem dL_looks_127 : decode cL_looks 127 = .ok (.iconst 2, 1) := by decide +kernel
theorem dL_looks_128 : decode cL_looks 128 = .ok (.iload 10, 2) := by decide +kernel
theorem dL_looks_130 : decode cL_looks 130 = .ok (.imul, 1) := by decide +kernel
theorem dL_looks_131 : decode cL_looks 131 = .ok (.if_icmp .ge 7, 3) := by decide +kernel
theorem dL_looks_134 : decode cL_looks 134 = .ok (.iconst 4, 1) := by decide +kernel
theorem dL_looks_135 : decode cL_looks 135 = .ok (.goto 4, 3) := by decide +kernel
theorem dL_looks_138 : decode cL_looks 138 = .ok (.iconst 5, 1) := by decide +kernel
theorem dL_looks_139 : decode cL_looks 139 = .ok (.iastore, 1) := by decide +kernel
theorem dL_looks_140 : decode cL_looks 140 = .ok (.iconst 0, 1) := by decide +kernel
theorem dL_looks_141 : decode cL_looks 141 = .ok (.istore 11, 2) := by decide +kernel
theorem dL_looks_143 : decode cL_looks 143 = .ok (.iload 11, 2) := by decide +kernel
theorem dL_looks_145 : decode cL_looks 145 = .ok (.aload_n 0, 1) := by decide +kernel
theorem dL_looks_146 : decode cL_looks 146 = .ok (.iconst 1, 1) := by decide +kernel
theorem dL_looks_147 : decode cL_looks 147 = .ok (.iaload, 1) := by decide +kernel
theorem dL_looks_148 : decode cL_looks 148 = .ok (.if_icmp .ge 84, 3) := by decide +kernel
theorem dL_looks_151 : decode cL_looks 151 = .ok (.aload_n 2, 1) := by decide +kernel
theorem dL_looks_152 : decode cL_looks 152 = .ok (.iconst 4, 1) := by decide +kernel
theorem dL_looks_153 : decode cL_looks 153 = .ok (.iload 7, 2) := by decide +kernel
theorem dL_looks_155 : decode cL_looks 155 = .ok (.imul, 1) := by decide +kernel
theorem dL_looks_156 : decode cL_looks 156 = .ok (.iconst 2, 1) := by decide +kernel
theorem dL_looks_157 : decode cL_looks 157 = .ok (.iadd, 1) := by decide +kernel
theorem dL_looks_158 : decode cL_looks 158 = .ok (.iaload, 1) := by decide +kernel
theorem dL_looks_159 : decode cL_looks 159 = .ok (.iconst 5, 1) := by decide +kernel
theorem dL_looks_160 : decode cL_looks 160 = .ok (.if_icmp .ne 72, 3) := by decide +kernel
theorem dL_looks_163 : decode cL_looks 163 = .ok (.aload_n 3, 1) := by decide +kernel
theorem dL_looks_164 : decode cL_looks 164 = .ok (.iload 11, 2) := by decide +kernel
theorem dL_looks_166 : decode cL_looks 166 = .ok (.iaload, 1) := by decide +kernel
theorem dL_looks_167 : decode cL_looks 167 = .ok (.bipush 16, 2) := by decide +kernel
theorem dL_looks_169 : decode cL_looks 169 = .ok (.irem, 1) := by decide +kernel
theorem dL_looks_170 : decode cL_looks 170 = .ok (.iload 7, 2) := by decide +kernel
theorem dL_looks_172 : decode cL_looks 172 = .ok (.if_icmp .ne 54, 3) := by decide +kernel
theorem dL_looks_175 : decode cL_looks 175 = .ok (.aload_n 1, 1) := by decide +kernel
theorem dL_looks_176 : decode cL_looks 176 = .ok (.iload 8, 2) := by decide +kernel
theorem dL_looks_178 : decode cL_looks 178 = .ok (.aload 4, 2) := by decide +kernel
theorem dL_looks_180 : decode cL_looks 180 = .ok (.iload 11, 2) := by decide +kernel
theorem dL_looks_182 : decode cL_looks 182 = .ok (.iaload, 1) := by decide +kernel
theorem dL_looks_183 : decode cL_looks 183 = .ok (.invokestatic 7, 3) := by decide +kernel
theorem dL_looks_186 : decode cL_looks 186 = .ok (.aload 5, 2) := by decide +kernel
theorem dL_looks_188 : decode cL_looks 188 = .ok (.iload 11, 2) := by decide +kernel
theorem dL_looks_190 : decode cL_looks 190 = .ok (.iaload, 1) := by decide +kernel
theorem dL_looks_191 : decode cL_looks 191 = .ok (.if_icmp .ne 35, 3) := by decide +kernel
theorem dL_looks_194 : decode cL_looks 194 = .ok (.aload_n 3, 1) := by decide +kernel
theorem dL_looks_195 : decode cL_looks 195 = .ok (.iload 11, 2) := by decide +kernel
theorem dL_looks_197 : decode cL_looks 197 = .ok (.iload 7, 2) := by decide +kernel
theorem dL_looks_199 : decode cL_looks 199 = .ok (.bipush 16, 2) := by decide +kernel
theorem dL_looks_201 : decode cL_looks 201 = .ok (.iadd, 1) := by decide +kernel
theorem dL_looks_202 : decode cL_looks 202 = .ok (.sipush 128, 3) := by decide +kernel
theorem dL_looks_205 : decode cL_looks 205 = .ok (.aload_n 0, 1) := by decide +kernel
theorem dL_looks_206 : decode cL_looks 206 = .ok (.iconst 3, 1) := by decide +kernel
theorem dL_looks_207 : decode cL_looks 207 = .ok (.iaload, 1) := by decide +kernel
theorem dL_looks_208 : decode cL_looks 208 = .ok (.imul, 1) := by decide +kernel
theorem dL_looks_209 : decode cL_looks 209 = .ok (.iadd, 1) := by decide +kernel
theorem dL_looks_210 : decode cL_looks 210 = .ok (.iastore, 1) := by decide +kernel
theorem dL_looks_211 : decode cL_looks 211 = .ok (.aload 6, 2) := by decide +kernel
theorem dL_looks_213 : decode cL_looks 213 = .ok (.aload_n 0, 1) := by decide +kernel
theorem dL_looks_214 : decode cL_looks 214 = .ok (.iconst 2, 1) := by decide +kernel
theorem dL_looks_215 : decode cL_looks 215 = .ok (.iaload, 1) := by decide +kernel
theorem dL_looks_216 : decode cL_looks 216 = .ok (.iload 11, 2) := by decide +kernel
theorem dL_looks_218 : decode cL_looks 218 = .ok (.iastore, 1) := by decide +kernel
theorem dL_looks_219 : decode cL_looks 219 = .ok (.aload_n 0, 1) := by decide +kernel
theorem dL_looks_220 : decode cL_looks 220 = .ok (.iconst 2, 1) := by decide +kernel
theorem dL_looks_221 : decode cL_looks 221 = .ok (.dup2, 1) := by decide +kernel
theorem dL_looks_222 : decode cL_looks 222 = .ok (.iaload, 1) := by decide +kernel
theorem dL_looks_223 : decode cL_looks 223 = .ok (.iconst 1, 1) := by decide +kernel
theorem dL_looks_224 : decode cL_looks 224 = .ok (.iadd, 1) := by decide +kernel
theorem dL_looks_225 : decode cL_looks 225 = .ok (.iastore, 1) := by decide +kernel
theorem dL_looks_226 : decode cL_looks 226 = .ok (.iinc 11 1, 3) := by decide +kernel
theorem dL_looks_229 : decode cL_looks 229 = .ok (.goto (-86), 3) := by decide +kernel
theorem dL_looks_232 : decode cL_looks 232 = .ok (.return_, 1) := by decide +kernel
set_option maxRecDepth 20000 in
theorem ggL_sends_L_looks : GoodIn wsL_sends wsL_looks := goodIn_r _ [4, 5, 6, 3, 7] (by decide +kernel) (by decide +kernel)
set_option maxRecDepth 20000 in
theorem gL_sends_L_looks : GoodIn wsL_sends (va_wsS RL 13 yL_looks wsL_looks) := goodIn_app (goodIn_of _ (by decide +kernel)) ggL_sends_L_looks
theorem dL_sends_0 : decode cL_sends 0 = .ok (.aload_n 2, 1) := by decide +kernel
theorem dL_sends_1 : decode cL_sends 1 = .ok (.iconst 4, 1) := by decide +kernel
theorem dL_sends_2 : decode cL_sends 2 = .ok (.iload 8, 2) := by decide +kernel
theorem dL_sends_4 : decode cL_sends 4 = .ok (.imul, 1) := by decide +kernel
theorem dL_sends_5 : decode cL_sends 5 = .ok (.iaload, 1) := by decide +kernel
theorem dL_sends_6 : decode cL_sends 6 = .ok (.istore 10, 2) := by decide +kernel
theorem dL_sends_8 : decode cL_sends 8 = .ok (.iconst 0, 1) := by decide +kernel
theorem dL_sends_9 : decode cL_sends 9 = .ok (.istore 11, 2) := by decide +kernel
theorem dL_sends_11 : decode cL_sends 11 = .ok (.iconst 0, 1) := by decide +kernel
theorem dL_sends_12 : decode cL_sends 12 = .ok (.istore 12, 2) := by decide +kernel
theorem dL_sends_14 : decode cL_sends 14 = .ok (.iload 12, 2) := by decide +kernel
theorem dL_sends_16 : decode cL_sends 16 = .ok (.aload_n 0, 1) := by decide +kernel
theorem dL_sends_17 : decode cL_sends 17 = .ok (.iconst 0, 1) := by decide +kernel
theorem dL_sends_18 : decode cL_sends 18 = .ok (.iaload, 1) := by decide +kernel
theorem dL_sends_19 : decode cL_sends 19 = .ok (.if_icmp .ge 57, 3) := by decide +kernel
theorem dL_sends_22 : decode cL_sends 22 = .ok (.iload 11, 2) := by decide +kernel
theorem dL_sends_24 : decode cL_sends 24 = .ok (.ifCond .ne 39, 3) := by decide +kernel
theorem dL_sends_27 : decode cL_sends 27 = .ok (.aload_n 2, 1) := by decide +kernel
theorem dL_sends_28 : decode cL_sends 28 = .ok (.iconst 4, 1) := by decide +kernel
theorem dL_sends_29 : decode cL_sends 29 = .ok (.iload 12, 2) := by decide +kernel
theorem dL_sends_31 : decode cL_sends 31 = .ok (.imul, 1) := by decide +kernel
theorem dL_sends_32 : decode cL_sends 32 = .ok (.iaload, 1) := by decide +kernel
theorem dL_sends_33 : decode cL_sends 33 = .ok (.iload 10, 2) := by decide +kernel
theorem dL_sends_35 : decode cL_sends 35 = .ok (.if_icmp .ne 32, 3) := by decide +kernel
theorem dL_sends_38 : decode cL_sends 38 = .ok (.aload_n 2, 1) := by decide +kernel
theorem dL_sends_39 : decode cL_sends 39 = .ok (.iconst 4, 1) := by decide +kernel
theorem dL_sends_40 : decode cL_sends 40 = .ok (.iload 12, 2) := by decide +kernel
theorem dL_sends_42 : decode cL_sends 42 = .ok (.imul, 1) := by decide +kernel
theorem dL_sends_43 : decode cL_sends 43 = .ok (.iconst 2, 1) := by decide +kernel
theorem dL_sends_44 : decode cL_sends 44 = .ok (.iadd, 1) := by decide +kernel
theorem dL_sends_45 : decode cL_sends 45 = .ok (.iaload, 1) := by decide +kernel
theorem dL_sends_46 : decode cL_sends 46 = .ok (.iconst 2, 1) := by decide +kernel
theorem dL_sends_47 : decode cL_sends 47 = .ok (.if_icmp .ne 20, 3) := by decide +kernel
theorem dL_sends_50 : decode cL_sends 50 = .ok (.aload_n 2, 1) := by decide +kernel
theorem dL_sends_51 : decode cL_sends 51 = .ok (.iconst 4, 1) := by decide +kernel
theorem dL_sends_52 : decode cL_sends 52 = .ok (.iload 12, 2) := by decide +kernel
theorem dL_sends_54 : decode cL_sends 54 = .ok (.imul, 1) := by decide +kernel
theorem dL_sends_55 : decode cL_sends 55 = .ok (.iconst 3, 1) := by decide +kernel
theorem dL_sends_56 : decode cL_sends 56 = .ok (.iadd, 1) := by decide +kernel
theorem dL_sends_57 : decode cL_sends 57 = .ok (.iaload, 1) := by decide +kernel
theorem dL_sends_58 : decode cL_sends 58 = .ok (.iload 9, 2) := by decide +kernel
theorem dL_sends_60 : decode cL_sends 60 = .ok (.if_icmp .ne 7, 3) := by decide +kernel
theorem dL_sends_63 : decode cL_sends 63 = .ok (.iconst 1, 1) := by decide +kernel
theorem dL_sends_64 : decode cL_sends 64 = .ok (.goto 4, 3) := by decide +kernel
theorem dL_sends_67 : decode cL_sends 67 = .ok (.iconst 0, 1) := by decide +kernel
theorem dL_sends_68 : decode cL_sends 68 = .ok (.istore 11, 2) := by decide +kernel
theorem dL_sends_70 : decode cL_sends 70 = .ok (.iinc 12 1, 3) := by decide +kernel
theorem dL_sends_73 : decode cL_sends 73 = .ok (.goto (-59), 3) := by decide +kernel
theorem dL_sends_76 : decode cL_sends 76 = .ok (.aload_n 2, 1) := by decide +kernel
theorem dL_sends_77 : decode cL_sends 77 = .ok (.iconst 4, 1) := by decide +kernel
theorem dL_sends_78 : decode cL_sends 78 = .ok (.iload 8, 2) := by decide +kernel
theorem dL_sends_80 : decode cL_sends 80 = .ok (.imul, 1) := by decide +kernel
theorem dL_sends_81 : decode cL_sends 81 = .ok (.iconst 2, 1) := by decide +kernel
theorem dL_sends_82 : decode cL_sends 82 = .ok (.iadd, 1) := by decide +kernel
theorem dL_sends_83 : decode cL_sends 83 = .ok (.iload 11, 2) := by decide +kernel
theorem dL_sends_85 : decode cL_sends 85 = .ok (.ifCond .ne 13, 3) := by decide +kernel
theorem dL_sends_88 : decode cL_sends 88 = .ok (.iload 9, 2) := by decide +kernel
theorem dL_sends_90 : decode cL_sends 90 = .ok (.aload 7, 2) := by decide +kernel
theorem dL_sends_92 : decode cL_sends 92 = .ok (.iload 10, 2) := by decide +kernel
theorem dL_sends_94 : decode cL_sends 94 = .ok (.iaload, 1) := by decide +kernel
theorem dL_sends_95 : decode cL_sends 95 = .ok (.if_icmp .ge 7, 3) := by decide +kernel
theorem dL_sends_98 : decode cL_sends 98 = .ok (.iconst 1, 1) := by decide +kernel
theorem dL_sends_99 : decode cL_sends 99 = .ok (.goto 4, 3) := by decide +kernel
theorem dL_sends_102 : decode cL_sends 102 = .ok (.iconst 2, 1) := by decide +kernel
theorem dL_sends_103 : decode cL_sends 103 = .ok (.iastore, 1) := by decide +kernel
theorem dL_sends_104 : decode cL_sends 104 = .ok (.aload_n 2, 1) := by decide +kernel
theorem dL_sends_105 : decode cL_sends 105 = .ok (.iconst 4, 1) := by decide +kernel
theorem dL_sends_106 : decode cL_sends 106 = .ok (.iload 8, 2) := by decide +kernel
theorem dL_sends_108 : decode cL_sends 108 = .ok (.imul, 1) := by decide +kernel
theorem dL_sends_109 : decode cL_sends 109 = .ok (.iconst 3, 1) := by decide +kernel
theorem dL_sends_110 : decode cL_sends 110 = .ok (.iadd, 1) := by decide +kernel
theorem dL_sends_111 : decode cL_sends 111 = .ok (.iload 9, 2) := by decide +kernel
theorem dL_sends_113 : decode cL_sends 113 = .ok (.iastore, 1) := by decide +kernel
theorem dL_sends_114 : decode cL_sends 114 = .ok (.iconst 0, 1) := by decide +kernel
theorem dL_sends_115 : decode cL_sends 115 = .ok (.istore 12, 2) := by decide +kernel
theorem dL_sends_117 : decode cL_sends 117 = .ok (.iload 12, 2) := by decide +kernel
theorem dL_sends_119 : decode cL_sends 119 = .ok (.bipush 100, 2) := by decide +kernel
theorem dL_sends_121 : decode cL_sends 121 = .ok (.if_icmp .ge 89, 3) := by decide +kernel
theorem dL_sends_124 : decode cL_sends 124 = .ok (.iconst 0, 1) := by decide +kernel
theorem dL_sends_125 : decode cL_sends 125 = .ok (.istore 13, 2) := by decide +kernel
theorem dL_sends_127 : decode cL_sends 127 = .ok (.iload 13, 2) := by decide +kernel
theorem dL_sends_129 : decode cL_sends 129 = .ok (.aload_n 0, 1) := by decide +kernel
theorem dL_sends_130 : decode cL_sends 130 = .ok (.iconst 0, 1) := by decide +kernel
theorem dL_sends_131 : decode cL_sends 131 = .ok (.iaload, 1) := by decide +kernel
theorem dL_sends_132 : decode cL_sends 132 = .ok (.if_icmp .ge 72, 3) := by decide +kernel
theorem dL_sends_135 : decode cL_sends 135 = .ok (.aload_n 2, 1) := by decide +kernel
theorem dL_sends_136 : decode cL_sends 136 = .ok (.iconst 4, 1) := by decide +kernel
theorem dL_sends_137 : decode cL_sends 137 = .ok (.iload 13, 2) := by decide +kernel
theorem dL_sends_139 : decode cL_sends 139 = .ok (.imul, 1) := by decide +kernel
theorem dL_sends_140 : decode cL_sends 140 = .ok (.iaload, 1) := by decide +kernel
theorem dL_sends_141 : decode cL_sends 141 = .ok (.iload 10, 2) := by decide +kernel
theorem dL_sends_143 : decode cL_sends 143 = .ok (.if_icmp .ne 55, 3) := by decide +kernel
theorem dL_sends_146 : decode cL_sends 146 = .ok (.aload_n 2, 1) := by decide +kernel
theorem dL_sends_147 : decode cL_sends 147 = .ok (.iconst 4, 1) := by decide +kernel
theorem dL_sends_148 : decode cL_sends 148 = .ok (.iload 13, 2) := by decide +kernel
theorem dL_sends_150 : decode cL_sends 150 = .ok (.imul, 1) := by decide +kernel
theorem dL_sends_151 : decode cL_sends 151 = .ok (.iconst 2, 1) := by decide +kernel
theorem dL_sends_152 : decode cL_sends 152 = .ok (.iadd, 1) := by decide +kernel
theorem dL_sends_153 : decode cL_sends 153 = .ok (.iaload, 1) := by decide +kernel
theorem dL_sends_154 : decode cL_sends 154 = .ok (.iconst 2, 1) := by decide +kernel
theorem dL_sends_155 : decode cL_sends 155 = .ok (.if_icmp .ne 43, 3) := by decide +kernel
theorem dL_sends_158 : decode cL_sends 158 = .ok (.aload_n 2, 1) := by decide +kernel
theorem dL_sends_159 : decode cL_sends 159 = .ok (.iconst 4, 1) := by decide +kernel
theorem dL_sends_160 : decode cL_sends 160 = .ok (.iload 13, 2) := by decide +kernel
theorem dL_sends_162 : decode cL_sends 162 = .ok (.imul, 1) := by decide +kernel
theorem dL_sends_163 : decode cL_sends 163 = .ok (.iconst 3, 1) := by decide +kernel
theorem dL_sends_164 : decode cL_sends 164 = .ok (.iadd, 1) := by decide +kernel
theorem dL_sends_165 : decode cL_sends 165 = .ok (.iaload, 1) := by decide +kernel
theorem dL_sends_166 : decode cL_sends 166 = .ok (.aload 7, 2) := by decide +kernel
theorem dL_sends_168 : decode cL_sends 168 = .ok (.iload 10, 2) := by decide +kernel
theorem dL_sends_170 : decode cL_sends 170 = .ok (.iaload, 1) := by decide +kernel
theorem dL_sends_171 : decode cL_sends 171 = .ok (.if_icmp .ne 27, 3) := by decide +kernel
theorem dL_sends_174 : decode cL_sends 174 = .ok (.aload_n 0, 1) := by decide +kernel
theorem dL_sends_175 : decode cL_sends 175 = .ok (.aload_n 1, 1) := by decide +kernel
theorem dL_sends_176 : decode cL_sends 176 = .ok (.aload_n 2, 1) := by decide +kernel
theorem dL_sends_177 : decode cL_sends 177 = .ok (.aload_n 3, 1) := by decide +kernel
theorem dL_sends_178 : decode cL_sends 178 = .ok (.aload 4, 2) := by decide +kernel
theorem dL_sends_180 : decode cL_sends 180 = .ok (.aload 5, 2) := by decide +kernel
theorem dL_sends_182 : decode cL_sends 182 = .ok (.aload 6, 2) := by decide +kernel
theorem dL_sends_184 : decode cL_sends 184 = .ok (.iload 13, 2) := by decide +kernel
theorem dL_sends_186 : decode cL_sends 186 = .ok (.invokestatic 13, 3) := by decide +kernel
theorem dL_sends_189 : decode cL_sends 189 = .ok (.aload 7, 2) := by decide +kernel
theorem dL_sends_191 : decode cL_sends 191 = .ok (.iload 10, 2) := by decide +kernel
theorem dL_sends_193 : decode cL_sends 193 = .ok (.dup2, 1) := by decide +kernel
theorem dL_sends_194 : decode cL_sends 194 = .ok (.iaload, 1) := by decide +kernel
theorem dL_sends_195 : decode cL_sends 195 = .ok (.iconst 1, 1) := by decide +kernel
theorem dL_sends_196 : decode cL_sends 196 = .ok (.iadd, 1) := by decide +kernel
theorem dL_sends_197 : decode cL_sends 197 = .ok (.iastore, 1) := by decide +kernel
theorem dL_sends_198 : decode cL_sends 198 = .ok (.iinc 13 1, 3) := by decide +kernel
theorem dL_sends_201 : decode cL_sends 201 = .ok (.goto (-74), 3) := by decide +kernel
theorem dL_sends_204 : decode cL_sends 204 = .ok (.iinc 12 1, 3) := by decide +kernel
theorem dL_sends_207 : decode cL_sends 207 = .ok (.goto (-90), 3) := by decide +kernel
theorem dL_sends_210 : decode cL_sends 210 = .ok (.aload_n 2, 1) := by decide +kernel
theorem dL_sends_211 : decode cL_sends 211 = .ok (.iconst 4, 1) := by decide +kernel
theorem dL_sends_212 : decode cL_sends 212 = .ok (.iload 8, 2) := by decide +kernel
theorem dL_sends_214 : decode cL_sends 214 = .ok (.imul, 1) := by decide +kernel
theorem dL_sends_215 : decode cL_sends 215 = .ok (.iconst 2, 1) := by decide +kernel
theorem dL_sends_216 : decode cL_sends 216 = .ok (.iadd, 1) := by decide +kernel
theorem dL_sends_217 : decode cL_sends 217 = .ok (.iaload, 1) := by decide +kernel
theorem dL_sends_218 : decode cL_sends 218 = .ok (.ireturn, 1) := by decide +kernel
set_option maxRecDepth 20000 in
theorem ggL_owed_L_pair : GoodIn wsL_owed wsL_pair := goodIn_r _ [5] (by decide +kernel) (by decide +kernel)
set_option maxRecDepth 20000 in
theorem gL_owed_L_pair : GoodIn wsL_owed (va_wsS RL 17 yL_pair wsL_pair) := goodIn_app (goodIn_of _ (by decide +kernel)) ggL_owed_L_pair
set_option maxRecDepth 20000 in
theorem ggL_owed_L_month : GoodIn wsL_owed wsL_month := goodIn_r _ [8] (by decide +kernel) (by decide +kernel)
set_option maxRecDepth 20000 in
theorem gL_owed_L_month : GoodIn wsL_owed (va_wsS RL 21 yL_month wsL_month) := goodIn_app (goodIn_of _ (by decide +kernel)) ggL_owed_L_month
set_option maxRecDepth 20000 in
theorem ggL_owed_L_state : GoodIn wsL_owed wsL_state := goodIn_r _ [11] (by decide +kernel) (by decide +kernel)
set_option maxRecDepth 20000 in
theorem gL_owed_L_state : GoodIn wsL_owed (va_wsS RL 27 yL_state wsL_state) := goodIn_app (goodIn_of _ (by decide +kernel)) ggL_owed_L_state
