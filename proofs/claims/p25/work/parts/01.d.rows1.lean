theorem wsL_law_x0 : ∀ w ∈ (vx_atS RX4 201 "java/lang/IndexOutOfBoundsException" ["java/lang/RuntimeException", "java/lang/Exception"]).filter goodWord, w ∈ lw_tbl := by decide +kernel
theorem wsL_law_x1 : ∀ w ∈ (vx_atS RX4 192 "java/lang/IllegalArgumentException" ["java/lang/RuntimeException", "java/lang/Exception"]).filter goodWord, w ∈ lw_tbl := by decide +kernel
theorem wsL_law_x2 : ∀ w ∈ (vx_atS RX4 77 "java/lang/IllegalStateException" ["java/lang/RuntimeException", "java/lang/Exception"]).filter goodWord, w ∈ lw_tbl := by decide +kernel
theorem wsL_law_in : ∀ w ∈ wsL_law, w ∈ lw_tbl := fun w h => (List.mem_append.mp h).elim (fun h => (List.mem_append.mp h).elim (fun h => (List.mem_append.mp h).elim (fun h => wsL_law_in0 w h) (fun h => wsL_law_x0 w h)) (fun h => wsL_law_x1 w h)) (fun h => wsL_law_x2 w h)
theorem inlX0 : ∀ w ∈ wsX00, w ∈ wsL_law := fun _ h => List.mem_append_left _ (List.mem_append_left _ (List.mem_append_left _ (List.mem_append_left _ (List.mem_append_right _ h))))
theorem inX0 : ∀ w ∈ wsX00, w ∈ lw_tbl := fun w h => wsL_law_in w (inlX0 w h)
theorem inlX1 : ∀ w ∈ wsX10, w ∈ wsL_law := fun _ h => List.mem_append_left _ (List.mem_append_left _ (List.mem_append_left _ (List.mem_append_left _ (List.mem_append_left _ (List.mem_append_right _ h)))))
theorem inX1 : ∀ w ∈ wsX10, w ∈ lw_tbl := fun w h => wsL_law_in w (inlX1 w h)
theorem inlX2 : ∀ w ∈ wsX20, w ∈ wsL_law := fun _ h => List.mem_append_left _ (List.mem_append_left _ (List.mem_append_left _ (List.mem_append_left _ (List.mem_append_left _ (List.mem_append_left _ (List.mem_append_left _ (List.mem_append_right _ h)))))))
theorem inX2 : ∀ w ∈ wsX20, w ∈ lw_tbl := fun w h => wsL_law_in w (inlX2 w h)
theorem inlX3 : ∀ w ∈ wsX30, w ∈ wsL_law := fun _ h => List.mem_append_left _ (List.mem_append_left _ (List.mem_append_left _ (List.mem_append_left _ (List.mem_append_left _ (List.mem_append_left _ (List.mem_append_right _ h))))))
theorem inX3 : ∀ w ∈ wsX30, w ∈ lw_tbl := fun w h => wsL_law_in w (inlX3 w h)
theorem inlX4 : ∀ w ∈ wsX40, w ∈ wsL_law := fun _ h => List.mem_append_left _ (List.mem_append_left _ (List.mem_append_left _ (List.mem_append_left _ (List.mem_append_left _ (List.mem_append_left _ (List.mem_append_left _ (List.mem_append_left _ (List.mem_append_right _ h))))))))
theorem inX4 : ∀ w ∈ wsX40, w ∈ lw_tbl := fun w h => wsL_law_in w (inlX4 w h)
theorem inX5 : ∀ w ∈ wsX50, w ∈ lw_tbl := by decide +kernel
theorem inJ9 : ∀ w ∈ wsJ90, w ∈ lw_tbl := by decide +kernel
theorem inJ0 : ∀ w ∈ wsJ00, w ∈ lw_tbl := by decide +kernel
theorem dX0_init_0 : decode cX0_init 0 = .ok (.aload_n 0, 1) := by decide +kernel
theorem dX0_init_1 : decode cX0_init 1 = .ok (.invokespecial 3, 3) := by decide +kernel
theorem dX0_init_4 : decode cX0_init 4 = .ok (.aload_n 0, 1) := by decide +kernel
theorem dX0_init_5 : decode cX0_init 5 = .ok (.iconst 0, 1) := by decide +kernel
theorem dX0_init_6 : decode cX0_init 6 = .ok (.putfield 9, 3) := by decide +kernel
theorem dX0_init_9 : decode cX0_init 9 = .ok (.aload_n 0, 1) := by decide +kernel
theorem dX0_init_10 : decode cX0_init 10 = .ok (.iconst (-1), 1) := by decide +kernel
theorem dX0_init_11 : decode cX0_init 11 = .ok (.putfield 15, 3) := by decide +kernel
theorem dX0_init_14 : decode cX0_init 14 = .ok (.aload_n 0, 1) := by decide +kernel
theorem dX0_init_15 : decode cX0_init 15 = .ok (.iconst (-1), 1) := by decide +kernel
theorem dX0_init_16 : decode cX0_init 16 = .ok (.putfield 18, 3) := by decide +kernel
theorem dX0_init_19 : decode cX0_init 19 = .ok (.aload_n 0, 1) := by decide +kernel
theorem dX0_init_20 : decode cX0_init 20 = .ok (.iconst 0, 1) := by decide +kernel
theorem dX0_init_21 : decode cX0_init 21 = .ok (.putfield 21, 3) := by decide +kernel
theorem dX0_init_24 : decode cX0_init 24 = .ok (.aload_n 0, 1) := by decide +kernel
theorem dX0_init_25 : decode cX0_init 25 = .ok (.aload_n 1, 1) := by decide +kernel
theorem dX0_init_26 : decode cX0_init 26 = .ok (.putfield 24, 3) := by decide +kernel
theorem dX0_init_29 : decode cX0_init 29 = .ok (.aload_n 0, 1) := by decide +kernel
theorem dX0_init_30 : decode cX0_init 30 = .ok (.iload_n 2, 1) := by decide +kernel
theorem dX0_init_31 : decode cX0_init 31 = .ok (.putfield 28, 3) := by decide +kernel
theorem dX0_init_34 : decode cX0_init 34 = .ok (.aload_n 0, 1) := by decide +kernel
theorem dX0_init_35 : decode cX0_init 35 = .ok (.iload_n 3, 1) := by decide +kernel
theorem dX0_init_36 : decode cX0_init 36 = .ok (.putfield 31, 3) := by decide +kernel
theorem dX0_init_39 : decode cX0_init 39 = .ok (.return_, 1) := by decide +kernel
set_option maxRecDepth 20000 in
theorem ggX0_isRight_X2_chargeFor : GoodIn wsX0_isRight wsX2_chargeFor := goodIn_r _ [10, 11, 12, 13, 33, 34, 35, 36] (by decide +kernel) (by decide +kernel)
set_option maxRecDepth 20000 in
theorem gX0_isRight_X2_chargeFor : GoodIn wsX0_isRight (wsV RX0 46 RX2 yX2_chargeFor wsX2_chargeFor) := goodIn_app (goodIn_of _ (by decide +kernel)) ggX0_isRight_X2_chargeFor
theorem dX0_isRight_0 : decode cX0_isRight 0 = .ok (.aload_n 0, 1) := by decide +kernel
theorem dX0_isRight_1 : decode cX0_isRight 1 = .ok (.getfield 31, 3) := by decide +kernel
theorem dX0_isRight_4 : decode cX0_isRight 4 = .ok (.aload_n 0, 1) := by decide +kernel
theorem dX0_isRight_5 : decode cX0_isRight 5 = .ok (.getfield 24, 3) := by decide +kernel
theorem dX0_isRight_8 : decode cX0_isRight 8 = .ok (.getfield 34, 3) := by decide +kernel
theorem dX0_isRight_11 : decode cX0_isRight 11 = .ok (.getfield 40, 3) := by decide +kernel
theorem dX0_isRight_14 : decode cX0_isRight 14 = .ok (.aload_n 0, 1) := by decide +kernel
theorem dX0_isRight_15 : decode cX0_isRight 15 = .ok (.getfield 28, 3) := by decide +kernel
theorem dX0_isRight_18 : decode cX0_isRight 18 = .ok (.invokevirtual 46, 3) := by decide +kernel
theorem dX0_isRight_21 : decode cX0_isRight 21 = .ok (.if_icmp .ne 7, 3) := by decide +kernel
theorem dX0_isRight_24 : decode cX0_isRight 24 = .ok (.iconst 1, 1) := by decide +kernel
theorem dX0_isRight_25 : decode cX0_isRight 25 = .ok (.goto 4, 3) := by decide +kernel
theorem dX0_isRight_28 : decode cX0_isRight 28 = .ok (.iconst 0, 1) := by decide +kernel
theorem dX0_isRight_29 : decode cX0_isRight 29 = .ok (.ireturn, 1) := by decide +kernel
set_option maxRecDepth 20000 in
theorem ggX0_acceptIn_X4_yearOf : GoodIn wsX0_acceptIn wsX4_yearOf := goodIn_r _ [10] (by decide +kernel) (by decide +kernel)
set_option maxRecDepth 20000 in
theorem gX0_acceptIn_X4_yearOf_n52 : GoodIn wsX0_acceptIn (wsX4_yearOf) := ggX0_acceptIn_X4_yearOf
theorem dX0_acceptIn_0 : decode cX0_acceptIn 0 = .ok (.iload_n 1, 1) := by decide +kernel
theorem dX0_acceptIn_1 : decode cX0_acceptIn 1 = .ok (.invokestatic 52, 3) := by decide +kernel
theorem dX0_acceptIn_4 : decode cX0_acceptIn 4 = .ok (.istore_n 2, 1) := by decide +kernel
theorem dX0_acceptIn_5 : decode cX0_acceptIn 5 = .ok (.aload_n 0, 1) := by decide +kernel
theorem dX0_acceptIn_6 : decode cX0_acceptIn 6 = .ok (.iconst 1, 1) := by decide +kernel
theorem dX0_acceptIn_7 : decode cX0_acceptIn 7 = .ok (.putfield 9, 3) := by decide +kernel
theorem dX0_acceptIn_10 : decode cX0_acceptIn 10 = .ok (.aload_n 0, 1) := by decide +kernel
theorem dX0_acceptIn_11 : decode cX0_acceptIn 11 = .ok (.iload_n 1, 1) := by decide +kernel
theorem dX0_acceptIn_12 : decode cX0_acceptIn 12 = .ok (.putfield 15, 3) := by decide +kernel
theorem dX0_acceptIn_15 : decode cX0_acceptIn 15 = .ok (.aload_n 0, 1) := by decide +kernel
theorem dX0_acceptIn_16 : decode cX0_acceptIn 16 = .ok (.aload_n 0, 1) := by decide +kernel
theorem dX0_acceptIn_17 : decode cX0_acceptIn 17 = .ok (.getfield 24, 3) := by decide +kernel
theorem dX0_acceptIn_20 : decode cX0_acceptIn 20 = .ok (.getfield 34, 3) := by decide +kernel
theorem dX0_acceptIn_23 : decode cX0_acceptIn 23 = .ok (.getfield 55, 3) := by decide +kernel
theorem dX0_acceptIn_26 : decode cX0_acceptIn 26 = .ok (.iload_n 2, 1) := by decide +kernel
theorem dX0_acceptIn_27 : decode cX0_acceptIn 27 = .ok (.iaload, 1) := by decide +kernel
theorem dX0_acceptIn_28 : decode cX0_acceptIn 28 = .ok (.putfield 21, 3) := by decide +kernel
theorem dX0_acceptIn_31 : decode cX0_acceptIn 31 = .ok (.aload_n 0, 1) := by decide +kernel
theorem dX0_acceptIn_32 : decode cX0_acceptIn 32 = .ok (.getfield 24, 3) := by decide +kernel
theorem dX0_acceptIn_35 : decode cX0_acceptIn 35 = .ok (.getfield 34, 3) := by decide +kernel
theorem dX0_acceptIn_38 : decode cX0_acceptIn 38 = .ok (.getfield 55, 3) := by decide +kernel
theorem dX0_acceptIn_41 : decode cX0_acceptIn 41 = .ok (.iload_n 2, 1) := by decide +kernel
theorem dX0_acceptIn_42 : decode cX0_acceptIn 42 = .ok (.dup2, 1) := by decide +kernel
theorem dX0_acceptIn_43 : decode cX0_acceptIn 43 = .ok (.iaload, 1) := by decide +kernel
theorem dX0_acceptIn_44 : decode cX0_acceptIn 44 = .ok (.aload_n 0, 1) := by decide +kernel
theorem dX0_acceptIn_45 : decode cX0_acceptIn 45 = .ok (.getfield 28, 3) := by decide +kernel
theorem dX0_acceptIn_48 : decode cX0_acceptIn 48 = .ok (.iadd, 1) := by decide +kernel
theorem dX0_acceptIn_49 : decode cX0_acceptIn 49 = .ok (.iastore, 1) := by decide +kernel
theorem dX0_acceptIn_50 : decode cX0_acceptIn 50 = .ok (.return_, 1) := by decide +kernel
set_option maxRecDepth 20000 in
theorem ggX0_amount_X4_yearOf : GoodIn wsX0_amount wsX4_yearOf := goodIn_r _ [11] (by decide +kernel) (by decide +kernel)
set_option maxRecDepth 20000 in
theorem gX0_amount_X4_yearOf_n52 : GoodIn wsX0_amount (wsX4_yearOf) := ggX0_amount_X4_yearOf
set_option maxRecDepth 20000 in
theorem ggX0_amount_X3_discounts : GoodIn wsX0_amount wsX3_discounts := goodIn_r _ [16, 17, 18, 19, 32, 33, 34, 35, 36, 37, 38] (by decide +kernel) (by decide +kernel)
set_option maxRecDepth 20000 in
theorem gX0_amount_X3_discounts : GoodIn wsX0_amount (wsV RX0 59 RX3 yX3_discounts wsX3_discounts) := goodIn_app (goodIn_of _ (by decide +kernel)) ggX0_amount_X3_discounts
theorem dX0_amount_0 : decode cX0_amount 0 = .ok (.aload_n 0, 1) := by decide +kernel
theorem dX0_amount_1 : decode cX0_amount 1 = .ok (.getfield 9, 3) := by decide +kernel
theorem dX0_amount_4 : decode cX0_amount 4 = .ok (.ifCond .eq 11, 3) := by decide +kernel
theorem dX0_amount_7 : decode cX0_amount 7 = .ok (.aload_n 0, 1) := by decide +kernel
theorem dX0_amount_8 : decode cX0_amount 8 = .ok (.getfield 9, 3) := by decide +kernel
theorem dX0_amount_11 : decode cX0_amount 11 = .ok (.iconst 4, 1) := by decide +kernel
theorem dX0_amount_12 : decode cX0_amount 12 = .ok (.if_icmp .ne 5, 3) := by decide +kernel
theorem dX0_amount_15 : decode cX0_amount 15 = .ok (.iconst 0, 1) := by decide +kernel
theorem dX0_amount_16 : decode cX0_amount 16 = .ok (.ireturn, 1) := by decide +kernel
theorem dX0_amount_17 : decode cX0_amount 17 = .ok (.aload_n 0, 1) := by decide +kernel
theorem dX0_amount_18 : decode cX0_amount 18 = .ok (.getfield 24, 3) := by decide +kernel
theorem dX0_amount_21 : decode cX0_amount 21 = .ok (.getfield 34, 3) := by decide +kernel
theorem dX0_amount_24 : decode cX0_amount 24 = .ok (.aload_n 0, 1) := by decide +kernel
theorem dX0_amount_25 : decode cX0_amount 25 = .ok (.getfield 15, 3) := by decide +kernel
theorem dX0_amount_28 : decode cX0_amount 28 = .ok (.invokestatic 52, 3) := by decide +kernel
theorem dX0_amount_31 : decode cX0_amount 31 = .ok (.aload_n 0, 1) := by decide +kernel
theorem dX0_amount_32 : decode cX0_amount 32 = .ok (.getfield 21, 3) := by decide +kernel
theorem dX0_amount_35 : decode cX0_amount 35 = .ok (.invokevirtual 59, 3) := by decide +kernel
theorem dX0_amount_38 : decode cX0_amount 38 = .ok (.ifCond .ne 8, 3) := by decide +kernel
theorem dX0_amount_41 : decode cX0_amount 41 = .ok (.aload_n 0, 1) := by decide +kernel
theorem dX0_amount_42 : decode cX0_amount 42 = .ok (.getfield 31, 3) := by decide +kernel
theorem dX0_amount_45 : decode cX0_amount 45 = .ok (.ireturn, 1) := by decide +kernel
theorem dX0_amount_46 : decode cX0_amount 46 = .ok (.aload_n 0, 1) := by decide +kernel
theorem dX0_amount_47 : decode cX0_amount 47 = .ok (.getfield 31, 3) := by decide +kernel
theorem dX0_amount_50 : decode cX0_amount 50 = .ok (.aload_n 0, 1) := by decide +kernel
theorem dX0_amount_51 : decode cX0_amount 51 = .ok (.getfield 31, 3) := by decide +kernel
theorem dX0_amount_54 : decode cX0_amount 54 = .ok (.i2l, 1) := by decide +kernel
theorem dX0_amount_55 : decode cX0_amount 55 = .ok (.aload_n 0, 1) := by decide +kernel
theorem dX0_amount_56 : decode cX0_amount 56 = .ok (.getfield 24, 3) := by decide +kernel
theorem dX0_amount_59 : decode cX0_amount 59 = .ok (.getfield 34, 3) := by decide +kernel
theorem dX0_amount_62 : decode cX0_amount 62 = .ok (.getfield 63, 3) := by decide +kernel
theorem dX0_amount_65 : decode cX0_amount 65 = .ok (.i2l, 1) := by decide +kernel
theorem dX0_amount_66 : decode cX0_amount 66 = .ok (.lmul, 1) := by decide +kernel
theorem dX0_amount_67 : decode cX0_amount 67 = .ok (.ldc2_w 66, 3) := by decide +kernel
theorem dX0_amount_70 : decode cX0_amount 70 = .ok (.ldiv, 1) := by decide +kernel
theorem dX0_amount_71 : decode cX0_amount 71 = .ok (.l2i, 1) := by decide +kernel
theorem dX0_amount_72 : decode cX0_amount 72 = .ok (.isub, 1) := by decide +kernel
theorem dX0_amount_73 : decode cX0_amount 73 = .ok (.ireturn, 1) := by decide +kernel
theorem dX1_init_0 : decode cX1_init 0 = .ok (.aload_n 0, 1) := by decide +kernel
theorem dX1_init_1 : decode cX1_init 1 = .ok (.invokespecial 3, 3) := by decide +kernel
theorem dX1_init_4 : decode cX1_init 4 = .ok (.aload_n 0, 1) := by decide +kernel
theorem dX1_init_5 : decode cX1_init 5 = .ok (.iconst 0, 1) := by decide +kernel
theorem dX1_init_6 : decode cX1_init 6 = .ok (.putfield 9, 3) := by decide +kernel
theorem dX1_init_9 : decode cX1_init 9 = .ok (.aload_n 0, 1) := by decide +kernel
theorem dX1_init_10 : decode cX1_init 10 = .ok (.iconst 0, 1) := by decide +kernel
theorem dX1_init_11 : decode cX1_init 11 = .ok (.putfield 15, 3) := by decide +kernel
theorem dX1_init_14 : decode cX1_init 14 = .ok (.aload_n 0, 1) := by decide +kernel
theorem dX1_init_15 : decode cX1_init 15 = .ok (.iconst (-1), 1) := by decide +kernel
theorem dX1_init_16 : decode cX1_init 16 = .ok (.putfield 18, 3) := by decide +kernel
theorem dX1_init_19 : decode cX1_init 19 = .ok (.aload_n 0, 1) := by decide +kernel
theorem dX1_init_20 : decode cX1_init 20 = .ok (.aload_n 1, 1) := by decide +kernel
theorem dX1_init_21 : decode cX1_init 21 = .ok (.putfield 21, 3) := by decide +kernel
theorem dX1_init_24 : decode cX1_init 24 = .ok (.aload_n 0, 1) := by decide +kernel
theorem dX1_init_25 : decode cX1_init 25 = .ok (.iload_n 2, 1) := by decide +kernel
theorem dX1_init_26 : decode cX1_init 26 = .ok (.putfield 25, 3) := by decide +kernel
theorem dX1_init_29 : decode cX1_init 29 = .ok (.return_, 1) := by decide +kernel
theorem dX2_init_0 : decode cX2_init 0 = .ok (.aload_n 0, 1) := by decide +kernel
theorem dX2_init_1 : decode cX2_init 1 = .ok (.invokespecial 3, 3) := by decide +kernel
theorem dX2_init_4 : decode cX2_init 4 = .ok (.aload_n 0, 1) := by decide +kernel
theorem dX2_init_5 : decode cX2_init 5 = .ok (.bipush 60, 2) := by decide +kernel
theorem dX2_init_7 : decode cX2_init 7 = .ok (.putfield 9, 3) := by decide +kernel
theorem dX2_init_10 : decode cX2_init 10 = .ok (.aload_n 0, 1) := by decide +kernel
theorem dX2_init_11 : decode cX2_init 11 = .ok (.bipush 10, 2) := by decide +kernel
theorem dX2_init_13 : decode cX2_init 13 = .ok (.putfield 15, 3) := by decide +kernel
theorem dX2_init_16 : decode cX2_init 16 = .ok (.aload_n 0, 1) := by decide +kernel
theorem dX2_init_17 : decode cX2_init 17 = .ok (.iconst 0, 1) := by decide +kernel
theorem dX2_init_18 : decode cX2_init 18 = .ok (.putfield 18, 3) := by decide +kernel
theorem dX2_init_21 : decode cX2_init 21 = .ok (.aload_n 0, 1) := by decide +kernel
theorem dX2_init_22 : decode cX2_init 22 = .ok (.sipush 1000, 3) := by decide +kernel
theorem dX2_init_25 : decode cX2_init 25 = .ok (.putfield 21, 3) := by decide +kernel
theorem dX2_init_28 : decode cX2_init 28 = .ok (.return_, 1) := by decide +kernel
theorem dX2_chargeFor_0 : decode cX2_chargeFor 0 = .ok (.iload_n 1, 1) := by decide +kernel
theorem dX2_chargeFor_1 : decode cX2_chargeFor 1 = .ok (.aload_n 0, 1) := by decide +kernel
theorem dX2_chargeFor_2 : decode cX2_chargeFor 2 = .ok (.getfield 9, 3) := by decide +kernel
theorem dX2_chargeFor_5 : decode cX2_chargeFor 5 = .ok (.iadd, 1) := by decide +kernel
theorem dX2_chargeFor_6 : decode cX2_chargeFor 6 = .ok (.iconst 1, 1) := by decide +kernel
theorem dX2_chargeFor_7 : decode cX2_chargeFor 7 = .ok (.isub, 1) := by decide +kernel
theorem dX2_chargeFor_8 : decode cX2_chargeFor 8 = .ok (.aload_n 0, 1) := by decide +kernel
theorem dX2_chargeFor_9 : decode cX2_chargeFor 9 = .ok (.getfield 9, 3) := by decide +kernel
theorem dX2_chargeFor_12 : decode cX2_chargeFor 12 = .ok (.idiv, 1) := by decide +kernel
theorem dX2_chargeFor_13 : decode cX2_chargeFor 13 = .ok (.istore_n 2, 1) := by decide +kernel
theorem dX2_chargeFor_14 : decode cX2_chargeFor 14 = .ok (.aload_n 0, 1) := by decide +kernel
theorem dX2_chargeFor_15 : decode cX2_chargeFor 15 = .ok (.getfield 18, 3) := by decide +kernel
theorem dX2_chargeFor_18 : decode cX2_chargeFor 18 = .ok (.aload_n 0, 1) := by decide +kernel
theorem dX2_chargeFor_19 : decode cX2_chargeFor 19 = .ok (.getfield 15, 3) := by decide +kernel
theorem dX2_chargeFor_22 : decode cX2_chargeFor 22 = .ok (.iload_n 2, 1) := by decide +kernel
theorem dX2_chargeFor_23 : decode cX2_chargeFor 23 = .ok (.imul, 1) := by decide +kernel
theorem dX2_chargeFor_24 : decode cX2_chargeFor 24 = .ok (.iadd, 1) := by decide +kernel
theorem dX2_chargeFor_25 : decode cX2_chargeFor 25 = .ok (.ireturn, 1) := by decide +kernel
theorem dX3_init_0 : decode cX3_init 0 = .ok (.aload_n 0, 1) := by decide +kernel
theorem dX3_init_1 : decode cX3_init 1 = .ok (.invokespecial 3, 3) := by decide +kernel
theorem dX3_init_4 : decode cX3_init 4 = .ok (.aload_n 0, 1) := by decide +kernel
theorem dX3_init_5 : decode cX3_init 5 = .ok (.iconst 1, 1) := by decide +kernel
theorem dX3_init_6 : decode cX3_init 6 = .ok (.putfield 9, 3) := by decide +kernel
theorem dX3_init_9 : decode cX3_init 9 = .ok (.aload_n 0, 1) := by decide +kernel
theorem dX3_init_10 : decode cX3_init 10 = .ok (.iconst 0, 1) := by decide +kernel
theorem dX3_init_11 : decode cX3_init 11 = .ok (.putfield 15, 3) := by decide +kernel
theorem dX3_init_14 : decode cX3_init 14 = .ok (.aload_n 0, 1) := by decide +kernel
theorem dX3_init_15 : decode cX3_init 15 = .ok (.iconst 0, 1) := by decide +kernel
theorem dX3_init_16 : decode cX3_init 16 = .ok (.putfield 18, 3) := by decide +kernel
theorem dX3_init_19 : decode cX3_init 19 = .ok (.aload_n 0, 1) := by decide +kernel
theorem dX3_init_20 : decode cX3_init 20 = .ok (.iconst 0, 1) := by decide +kernel
theorem dX3_init_21 : decode cX3_init 21 = .ok (.putfield 21, 3) := by decide +kernel
theorem dX3_init_24 : decode cX3_init 24 = .ok (.aload_n 0, 1) := by decide +kernel
theorem dX3_init_25 : decode cX3_init 25 = .ok (.iconst 0, 1) := by decide +kernel
theorem dX3_init_26 : decode cX3_init 26 = .ok (.putfield 24, 3) := by decide +kernel
theorem dX3_init_29 : decode cX3_init 29 = .ok (.aload_n 0, 1) := by decide +kernel
theorem dX3_init_30 : decode cX3_init 30 = .ok (.iconst 3, 1) := by decide +kernel
theorem dX3_init_31 : decode cX3_init 31 = .ok (.newarray .int, 2) := by decide +kernel
theorem dX3_init_33 : decode cX3_init 33 = .ok (.putfield 28, 3) := by decide +kernel
theorem dX3_init_36 : decode cX3_init 36 = .ok (.aload_n 0, 1) := by decide +kernel
theorem dX3_init_37 : decode cX3_init 37 = .ok (.aload_n 1, 1) := by decide +kernel
theorem dX3_init_38 : decode cX3_init 38 = .ok (.putfield 32, 3) := by decide +kernel
theorem dX3_init_41 : decode cX3_init 41 = .ok (.return_, 1) := by decide +kernel
theorem dX3_discounts_0 : decode cX3_discounts 0 = .ok (.aload_n 0, 1) := by decide +kernel
theorem dX3_discounts_1 : decode cX3_discounts 1 = .ok (.getfield 24, 3) := by decide +kernel
theorem dX3_discounts_4 : decode cX3_discounts 4 = .ok (.ifCond .eq 12, 3) := by decide +kernel
theorem dX3_discounts_7 : decode cX3_discounts 7 = .ok (.aload_n 0, 1) := by decide +kernel
theorem dX3_discounts_8 : decode cX3_discounts 8 = .ok (.getfield 28, 3) := by decide +kernel
theorem dX3_discounts_11 : decode cX3_discounts 11 = .ok (.iload_n 1, 1) := by decide +kernel
theorem dX3_discounts_12 : decode cX3_discounts 12 = .ok (.iaload, 1) := by decide +kernel
theorem dX3_discounts_13 : decode cX3_discounts 13 = .ok (.goto 4, 3) := by decide +kernel
theorem dX3_discounts_16 : decode cX3_discounts 16 = .ok (.iload_n 2, 1) := by decide +kernel
theorem dX3_discounts_17 : decode cX3_discounts 17 = .ok (.aload_n 0, 1) := by decide +kernel
theorem dX3_discounts_18 : decode cX3_discounts 18 = .ok (.getfield 18, 3) := by decide +kernel
theorem dX3_discounts_21 : decode cX3_discounts 21 = .ok (.if_icmp .lt 7, 3) := by decide +kernel
theorem dX3_discounts_24 : decode cX3_discounts 24 = .ok (.iconst 1, 1) := by decide +kernel
theorem dX3_discounts_25 : decode cX3_discounts 25 = .ok (.goto 4, 3) := by decide +kernel
theorem dX3_discounts_28 : decode cX3_discounts 28 = .ok (.iconst 0, 1) := by decide +kernel
theorem dX3_discounts_29 : decode cX3_discounts 29 = .ok (.ireturn, 1) := by decide +kernel
set_option maxRecDepth 20000 in
theorem ggX4_init_X2_init : GoodIn wsX4_init wsX2_init := goodIn_r _ [20, 21, 2, 3, 22, 23, 24, 25, 45, 46, 47, 48] (by decide +kernel) (by decide +kernel)
set_option maxRecDepth 20000 in
theorem gX4_init_X2_init_n43 : GoodIn wsX4_init (wsX2_init) := ggX4_init_X2_init
set_option maxRecDepth 20000 in
theorem ggX4_init_X3_init : GoodIn wsX4_init wsX3_init := goodIn_r _ [28, 29, 2, 3, 30, 31, 32, 33, 34, 35, 36, 37, 49, 50, 51, 52, 53, 54, 55] (by decide +kernel) (by decide +kernel)
set_option maxRecDepth 20000 in
theorem gX4_init_X3_init : GoodIn wsX4_init (wsX3_init) := ggX4_init_X3_init
theorem dX4_init_0 : decode cX4_init 0 = .ok (.aload_n 0, 1) := by decide +kernel
theorem dX4_init_1 : decode cX4_init 1 = .ok (.invokespecial 1, 3) := by decide +kernel
theorem dX4_init_4 : decode cX4_init 4 = .ok (.aload_n 0, 1) := by decide +kernel
theorem dX4_init_5 : decode cX4_init 5 = .ok (.iconst 4, 1) := by decide +kernel
theorem dX4_init_6 : decode cX4_init 6 = .ok (.anewarray 9, 3) := by decide +kernel
theorem dX4_init_9 : decode cX4_init 9 = .ok (.putfield 11, 3) := by decide +kernel
theorem dX4_init_12 : decode cX4_init 12 = .ok (.aload_n 0, 1) := by decide +kernel
theorem dX4_init_13 : decode cX4_init 13 = .ok (.bipush 16, 2) := by decide +kernel
theorem dX4_init_15 : decode cX4_init 15 = .ok (.anewarray 15, 3) := by decide +kernel
theorem dX4_init_18 : decode cX4_init 18 = .ok (.putfield 17, 3) := by decide +kernel
theorem dX4_init_21 : decode cX4_init 21 = .ok (.aload_n 0, 1) := by decide +kernel
theorem dX4_init_22 : decode cX4_init 22 = .ok (.bipush 30, 2) := by decide +kernel
theorem dX4_init_24 : decode cX4_init 24 = .ok (.anewarray 21, 3) := by decide +kernel
theorem dX4_init_27 : decode cX4_init 27 = .ok (.putfield 23, 3) := by decide +kernel
theorem dX4_init_30 : decode cX4_init 30 = .ok (.aload_n 0, 1) := by decide +kernel
theorem dX4_init_31 : decode cX4_init 31 = .ok (.iconst 0, 1) := by decide +kernel
theorem dX4_init_32 : decode cX4_init 32 = .ok (.putfield 27, 3) := by decide +kernel
theorem dX4_init_35 : decode cX4_init 35 = .ok (.aload_n 0, 1) := by decide +kernel
theorem dX4_init_36 : decode cX4_init 36 = .ok (.bipush 60, 2) := by decide +kernel
theorem dX4_init_38 : decode cX4_init 38 = .ok (.anewarray 31, 3) := by decide +kernel
theorem dX4_init_41 : decode cX4_init 41 = .ok (.putfield 33, 3) := by decide +kernel
theorem dX4_init_44 : decode cX4_init 44 = .ok (.aload_n 0, 1) := by decide +kernel
theorem dX4_init_45 : decode cX4_init 45 = .ok (.iconst 0, 1) := by decide +kernel
theorem dX4_init_46 : decode cX4_init 46 = .ok (.putfield 37, 3) := by decide +kernel
theorem dX4_init_49 : decode cX4_init 49 = .ok (.aload_n 0, 1) := by decide +kernel
theorem dX4_init_50 : decode cX4_init 50 = .ok (.iconst 0, 1) := by decide +kernel
theorem dX4_init_51 : decode cX4_init 51 = .ok (.putfield 40, 3) := by decide +kernel
theorem dX4_init_54 : decode cX4_init 54 = .ok (.iconst 0, 1) := by decide +kernel
theorem dX4_init_55 : decode cX4_init 55 = .ok (.istore_n 1, 1) := by decide +kernel
theorem dX4_init_56 : decode cX4_init 56 = .ok (.iload_n 1, 1) := by decide +kernel
theorem dX4_init_57 : decode cX4_init 57 = .ok (.iconst 4, 1) := by decide +kernel
theorem dX4_init_58 : decode cX4_init 58 = .ok (.if_icmp .ge 58, 3) := by decide +kernel
theorem dX4_init_61 : decode cX4_init 61 = .ok (.aload_n 0, 1) := by decide +kernel
theorem dX4_init_62 : decode cX4_init 62 = .ok (.getfield 11, 3) := by decide +kernel
theorem dX4_init_65 : decode cX4_init 65 = .ok (.iload_n 1, 1) := by decide +kernel
theorem dX4_init_66 : decode cX4_init 66 = .ok (.new 9, 3) := by decide +kernel
theorem dX4_init_69 : decode cX4_init 69 = .ok (.dup, 1) := by decide +kernel
theorem dX4_init_70 : decode cX4_init 70 = .ok (.invokespecial 43, 3) := by decide +kernel
theorem dX4_init_73 : decode cX4_init 73 = .ok (.aastore, 1) := by decide +kernel
theorem dX4_init_74 : decode cX4_init 74 = .ok (.iconst 0, 1) := by decide +kernel
theorem dX4_init_75 : decode cX4_init 75 = .ok (.istore_n 2, 1) := by decide +kernel
theorem dX4_init_76 : decode cX4_init 76 = .ok (.iload_n 2, 1) := by decide +kernel
theorem dX4_init_77 : decode cX4_init 77 = .ok (.iconst 4, 1) := by decide +kernel
theorem dX4_init_78 : decode cX4_init 78 = .ok (.if_icmp .ge 32, 3) := by decide +kernel
theorem dX4_init_81 : decode cX4_init 81 = .ok (.aload_n 0, 1) := by decide +kernel
theorem dX4_init_82 : decode cX4_init 82 = .ok (.getfield 17, 3) := by decide +kernel
theorem dX4_init_85 : decode cX4_init 85 = .ok (.iload_n 1, 1) := by decide +kernel
theorem dX4_init_86 : decode cX4_init 86 = .ok (.iconst 4, 1) := by decide +kernel
theorem dX4_init_87 : decode cX4_init 87 = .ok (.imul, 1) := by decide +kernel
theorem dX4_init_88 : decode cX4_init 88 = .ok (.iload_n 2, 1) := by decide +kernel
theorem dX4_init_89 : decode cX4_init 89 = .ok (.iadd, 1) := by decide +kernel
theorem dX4_init_90 : decode cX4_init 90 = .ok (.new 15, 3) := by decide +kernel
theorem dX4_init_93 : decode cX4_init 93 = .ok (.dup, 1) := by decide +kernel
theorem dX4_init_94 : decode cX4_init 94 = .ok (.aload_n 0, 1) := by decide +kernel
theorem dX4_init_95 : decode cX4_init 95 = .ok (.getfield 11, 3) := by decide +kernel
theorem dX4_init_98 : decode cX4_init 98 = .ok (.iload_n 1, 1) := by decide +kernel
theorem dX4_init_99 : decode cX4_init 99 = .ok (.aaload, 1) := by decide +kernel
theorem dX4_init_100 : decode cX4_init 100 = .ok (.invokespecial 44, 3) := by decide +kernel
theorem dX4_init_103 : decode cX4_init 103 = .ok (.aastore, 1) := by decide +kernel
theorem dX4_init_104 : decode cX4_init 104 = .ok (.iinc 2 1, 3) := by decide +kernel
theorem dX4_init_107 : decode cX4_init 107 = .ok (.goto (-31), 3) := by decide +kernel
theorem dX4_init_110 : decode cX4_init 110 = .ok (.iinc 1 1, 3) := by decide +kernel
theorem dX4_init_113 : decode cX4_init 113 = .ok (.goto (-57), 3) := by decide +kernel
theorem dX4_init_116 : decode cX4_init 116 = .ok (.return_, 1) := by decide +kernel
set_option maxRecDepth 20000 in
theorem ggX4_setTariff_X4_operatorAt : GoodIn wsX4_setTariff wsX4_operatorAt := goodIn_ca (goodIn_r _ [8, 9, 10, 11, 12, 13, 7, 14, 24, 25, 26, 27, 28, 29, 30] (by decide +kernel) (by decide +kernel)) (goodIn_sub (fun _ h => List.mem_cons_of_mem _ (List.mem_append_left _ (List.mem_append_right _ h))) (by decide +kernel))
set_option maxRecDepth 20000 in
theorem gX4_setTariff_X4_operatorAt : GoodIn wsX4_setTariff (wsV RX4 47 RX4 yX4_operatorAt wsX4_operatorAt) := goodIn_app (goodIn_of _ (by decide +kernel)) ggX4_setTariff_X4_operatorAt
set_option maxRecDepth 20000 in
theorem ggX4_setTariff_X4_refuseOutside : GoodIn wsX4_setTariff wsX4_refuseOutside := goodIn_ca (goodIn_r _ [17, 18, 19] (by decide +kernel) (by decide +kernel)) (goodIn_sub (fun _ h => List.mem_cons_of_mem _ (List.mem_append_right _ h)) (by decide +kernel))
set_option maxRecDepth 20000 in
theorem gX4_setTariff_X4_refuseOutside : GoodIn wsX4_setTariff (va_wsS RX4 51 yX4_refuseOutside wsX4_refuseOutside) := goodIn_app (goodIn_of _ (by decide +kernel)) ggX4_setTariff_X4_refuseOutside
theorem dX4_setTariff_0 : decode cX4_setTariff 0 = .ok (.aload_n 0, 1) := by decide +kernel
theorem dX4_setTariff_1 : decode cX4_setTariff 1 = .ok (.iload_n 1, 1) := by decide +kernel
theorem dX4_setTariff_2 : decode cX4_setTariff 2 = .ok (.invokevirtual 47, 3) := by decide +kernel
theorem dX4_setTariff_5 : decode cX4_setTariff 5 = .ok (.astore 5, 2) := by decide +kernel
theorem dX4_setTariff_7 : decode cX4_setTariff 7 = .ok (.iload_n 2, 1) := by decide +kernel
theorem dX4_setTariff_8 : decode cX4_setTariff 8 = .ok (.iconst 1, 1) := by decide +kernel
theorem dX4_setTariff_9 : decode cX4_setTariff 9 = .ok (.sipush 600, 3) := by decide +kernel
theorem dX4_setTariff_12 : decode cX4_setTariff 12 = .ok (.invokestatic 51, 3) := by decide +kernel
theorem dX4_setTariff_15 : decode cX4_setTariff 15 = .ok (.iload_n 3, 1) := by decide +kernel
theorem dX4_setTariff_16 : decode cX4_setTariff 16 = .ok (.iconst 0, 1) := by decide +kernel
theorem dX4_setTariff_17 : decode cX4_setTariff 17 = .ok (.sipush 1000, 3) := by decide +kernel
theorem dX4_setTariff_20 : decode cX4_setTariff 20 = .ok (.invokestatic 51, 3) := by decide +kernel
theorem dX4_setTariff_23 : decode cX4_setTariff 23 = .ok (.iload 4, 2) := by decide +kernel
theorem dX4_setTariff_25 : decode cX4_setTariff 25 = .ok (.iconst 0, 1) := by decide +kernel
theorem dX4_setTariff_26 : decode cX4_setTariff 26 = .ok (.sipush 1000, 3) := by decide +kernel
theorem dX4_setTariff_29 : decode cX4_setTariff 29 = .ok (.invokestatic 51, 3) := by decide +kernel
theorem dX4_setTariff_32 : decode cX4_setTariff 32 = .ok (.aload 5, 2) := by decide +kernel
theorem dX4_setTariff_34 : decode cX4_setTariff 34 = .ok (.getfield 55, 3) := by decide +kernel
theorem dX4_setTariff_37 : decode cX4_setTariff 37 = .ok (.istore 6, 2) := by decide +kernel
theorem dX4_setTariff_39 : decode cX4_setTariff 39 = .ok (.aload 5, 2) := by decide +kernel
theorem dX4_setTariff_41 : decode cX4_setTariff 41 = .ok (.iload_n 2, 1) := by decide +kernel
theorem dX4_setTariff_42 : decode cX4_setTariff 42 = .ok (.putfield 58, 3) := by decide +kernel
theorem dX4_setTariff_45 : decode cX4_setTariff 45 = .ok (.aload 5, 2) := by decide +kernel
theorem dX4_setTariff_47 : decode cX4_setTariff 47 = .ok (.iload_n 3, 1) := by decide +kernel
theorem dX4_setTariff_48 : decode cX4_setTariff 48 = .ok (.putfield 55, 3) := by decide +kernel
theorem dX4_setTariff_51 : decode cX4_setTariff 51 = .ok (.aload 5, 2) := by decide +kernel
theorem dX4_setTariff_53 : decode cX4_setTariff 53 = .ok (.iload 4, 2) := by decide +kernel
theorem dX4_setTariff_55 : decode cX4_setTariff 55 = .ok (.putfield 61, 3) := by decide +kernel
theorem dX4_setTariff_58 : decode cX4_setTariff 58 = .ok (.iload 6, 2) := by decide +kernel
theorem dX4_setTariff_60 : decode cX4_setTariff 60 = .ok (.ireturn, 1) := by decide +kernel
set_option maxRecDepth 20000 in
theorem ggX4_charge_X4_operatorAt : GoodIn wsX4_charge wsX4_operatorAt := goodIn_ca (goodIn_r _ [6, 7, 8, 9, 10, 11, 5, 12, 26, 27, 28, 29, 30, 31, 32] (by decide +kernel) (by decide +kernel)) (goodIn_sub (fun _ h => List.mem_cons_of_mem _ (List.mem_append_left _ (List.mem_append_right _ h))) (by decide +kernel))
set_option maxRecDepth 20000 in
theorem gX4_charge_X4_operatorAt : GoodIn wsX4_charge (wsV RX4 47 RX4 yX4_operatorAt wsX4_operatorAt) := goodIn_app (goodIn_of _ (by decide +kernel)) ggX4_charge_X4_operatorAt
set_option maxRecDepth 20000 in
theorem ggX4_charge_X4_refuseOutside : GoodIn wsX4_charge wsX4_refuseOutside := goodIn_ca (goodIn_r _ [15, 16, 17] (by decide +kernel) (by decide +kernel)) (goodIn_sub (fun _ h => List.mem_cons_of_mem _ (List.mem_append_right _ h)) (by decide +kernel))
set_option maxRecDepth 20000 in
theorem gX4_charge_X4_refuseOutside : GoodIn wsX4_charge (va_wsS RX4 51 yX4_refuseOutside wsX4_refuseOutside) := goodIn_app (goodIn_of _ (by decide +kernel)) ggX4_charge_X4_refuseOutside
set_option maxRecDepth 20000 in
theorem ggX4_charge_X2_chargeFor : GoodIn wsX4_charge wsX2_chargeFor := goodIn_r _ [22, 23, 24, 25, 33, 34, 35, 36] (by decide +kernel) (by decide +kernel)
set_option maxRecDepth 20000 in
theorem gX4_charge_X2_chargeFor : GoodIn wsX4_charge (wsV RX4 65 RX2 yX2_chargeFor wsX2_chargeFor) := goodIn_app (goodIn_of _ (by decide +kernel)) ggX4_charge_X2_chargeFor
theorem dX4_charge_0 : decode cX4_charge 0 = .ok (.aload_n 0, 1) := by decide +kernel
theorem dX4_charge_1 : decode cX4_charge 1 = .ok (.iload_n 1, 1) := by decide +kernel
theorem dX4_charge_2 : decode cX4_charge 2 = .ok (.invokevirtual 47, 3) := by decide +kernel
theorem dX4_charge_5 : decode cX4_charge 5 = .ok (.astore_n 3, 1) := by decide +kernel
theorem dX4_charge_6 : decode cX4_charge 6 = .ok (.iload_n 2, 1) := by decide +kernel
theorem dX4_charge_7 : decode cX4_charge 7 = .ok (.iconst 1, 1) := by decide +kernel
theorem dX4_charge_8 : decode cX4_charge 8 = .ok (.ldc 64, 2) := by decide +kernel
theorem dX4_charge_10 : decode cX4_charge 10 = .ok (.invokestatic 51, 3) := by decide +kernel
theorem dX4_charge_13 : decode cX4_charge 13 = .ok (.aload_n 3, 1) := by decide +kernel
theorem dX4_charge_14 : decode cX4_charge 14 = .ok (.iload_n 2, 1) := by decide +kernel
theorem dX4_charge_15 : decode cX4_charge 15 = .ok (.invokevirtual 65, 3) := by decide +kernel
theorem dX4_charge_18 : decode cX4_charge 18 = .ok (.ireturn, 1) := by decide +kernel
set_option maxRecDepth 20000 in
theorem ggX4_begin_X4_pairAt : GoodIn wsX4_begin wsX4_pairAt := goodIn_ca (goodIn_ca (goodIn_r _ [13, 14, 15, 16, 17, 18, 19, 20, 12, 21, 33, 34, 35, 36, 37, 38, 39] (by decide +kernel) (by decide +kernel)) (goodIn_sub (fun _ h => List.mem_cons_of_mem _ (List.mem_append_left _ (List.mem_append_right _ h))) (by decide +kernel))) (goodIn_sub (fun _ h => List.mem_cons_of_mem _ (List.mem_append_right _ h)) (by decide +kernel))
set_option maxRecDepth 20000 in
theorem gX4_begin_X4_pairAt : GoodIn wsX4_begin (wsV RX4 69 RX4 yX4_pairAt wsX4_pairAt) := goodIn_app (goodIn_of _ (by decide +kernel)) ggX4_begin_X4_pairAt
set_option maxRecDepth 20000 in
theorem ggX4_begin_X1_init : GoodIn wsX4_begin wsX1_init := goodIn_r _ [24, 25, 26, 27, 28, 29, 30, 31, 32, 40, 41, 42, 43, 44] (by decide +kernel) (by decide +kernel)
set_option maxRecDepth 20000 in
theorem gX4_begin_X1_init : GoodIn wsX4_begin (wsX1_init) := ggX4_begin_X1_init
theorem dX4_begin_0 : decode cX4_begin 0 = .ok (.aload_n 0, 1) := by decide +kernel
theorem dX4_begin_1 : decode cX4_begin 1 = .ok (.iload_n 1, 1) := by decide +kernel
theorem dX4_begin_2 : decode cX4_begin 2 = .ok (.iload_n 2, 1) := by decide +kernel
theorem dX4_begin_3 : decode cX4_begin 3 = .ok (.invokevirtual 69, 3) := by decide +kernel
theorem dX4_begin_6 : decode cX4_begin 6 = .ok (.astore_n 3, 1) := by decide +kernel
theorem dX4_begin_7 : decode cX4_begin 7 = .ok (.aload_n 0, 1) := by decide +kernel
theorem dX4_begin_8 : decode cX4_begin 8 = .ok (.getfield 27, 3) := by decide +kernel
theorem dX4_begin_11 : decode cX4_begin 11 = .ok (.bipush 30, 2) := by decide +kernel
theorem dX4_begin_13 : decode cX4_begin 13 = .ok (.if_icmp .lt 13, 3) := by decide +kernel
theorem dX4_begin_16 : decode cX4_begin 16 = .ok (.new 73, 3) := by decide +kernel
theorem dX4_begin_19 : decode cX4_begin 19 = .ok (.dup, 1) := by decide +kernel
theorem dX4_begin_20 : decode cX4_begin 20 = .ok (.ldc 75, 2) := by decide +kernel
theorem dX4_begin_22 : decode cX4_begin 22 = .ok (.invokespecial 77, 3) := by decide +kernel
theorem dX4_begin_25 : decode cX4_begin 25 = .ok (.athrow, 1) := by decide +kernel
theorem dX4_begin_26 : decode cX4_begin 26 = .ok (.aload_n 0, 1) := by decide +kernel
theorem dX4_begin_27 : decode cX4_begin 27 = .ok (.getfield 27, 3) := by decide +kernel
theorem dX4_begin_30 : decode cX4_begin 30 = .ok (.istore 4, 2) := by decide +kernel
theorem dX4_begin_32 : decode cX4_begin 32 = .ok (.aload_n 0, 1) := by decide +kernel
theorem dX4_begin_33 : decode cX4_begin 33 = .ok (.getfield 23, 3) := by decide +kernel
theorem dX4_begin_36 : decode cX4_begin 36 = .ok (.iload 4, 2) := by decide +kernel
theorem dX4_begin_38 : decode cX4_begin 38 = .ok (.new 21, 3) := by decide +kernel
theorem dX4_begin_41 : decode cX4_begin 41 = .ok (.dup, 1) := by decide +kernel
theorem dX4_begin_42 : decode cX4_begin 42 = .ok (.aload_n 3, 1) := by decide +kernel
theorem dX4_begin_43 : decode cX4_begin 43 = .ok (.aload_n 0, 1) := by decide +kernel
theorem dX4_begin_44 : decode cX4_begin 44 = .ok (.getfield 40, 3) := by decide +kernel
theorem dX4_begin_47 : decode cX4_begin 47 = .ok (.invokespecial 80, 3) := by decide +kernel
theorem dX4_begin_50 : decode cX4_begin 50 = .ok (.aastore, 1) := by decide +kernel
theorem dX4_begin_51 : decode cX4_begin 51 = .ok (.aload_n 0, 1) := by decide +kernel
theorem dX4_begin_52 : decode cX4_begin 52 = .ok (.dup, 1) := by decide +kernel
theorem dX4_begin_53 : decode cX4_begin 53 = .ok (.getfield 27, 3) := by decide +kernel
theorem dX4_begin_56 : decode cX4_begin 56 = .ok (.iconst 1, 1) := by decide +kernel
theorem dX4_begin_57 : decode cX4_begin 57 = .ok (.iadd, 1) := by decide +kernel
theorem dX4_begin_58 : decode cX4_begin 58 = .ok (.putfield 27, 3) := by decide +kernel
theorem dX4_begin_61 : decode cX4_begin 61 = .ok (.iload 4, 2) := by decide +kernel
theorem dX4_begin_63 : decode cX4_begin 63 = .ok (.ireturn, 1) := by decide +kernel
set_option maxRecDepth 20000 in
theorem ggX4_enter_X4_fileAt : GoodIn wsX4_enter wsX4_fileAt := goodIn_ca (goodIn_r _ [16, 17, 18, 19, 20, 44, 45, 46, 47, 48, 49, 50] (by decide +kernel) (by decide +kernel)) (goodIn_sub (fun _ h => List.mem_cons_of_mem _ (List.mem_append_left _ (List.mem_append_right _ h))) (by decide +kernel))
set_option maxRecDepth 20000 in
theorem gX4_enter_X4_fileAt : GoodIn wsX4_enter (wsV RX4 83 RX4 yX4_fileAt wsX4_fileAt) := goodIn_app (goodIn_of _ (by decide +kernel)) ggX4_enter_X4_fileAt
set_option maxRecDepth 20000 in
theorem ggX4_enter_X4_refuseOutside : GoodIn wsX4_enter wsX4_refuseOutside := goodIn_ca (goodIn_r _ [23, 24, 25] (by decide +kernel) (by decide +kernel)) (goodIn_sub (fun _ h => List.mem_cons_of_mem _ (List.mem_append_right _ h)) (by decide +kernel))
set_option maxRecDepth 20000 in
theorem gX4_enter_X4_refuseOutside : GoodIn wsX4_enter (va_wsS RX4 51 yX4_refuseOutside wsX4_refuseOutside) := goodIn_app (goodIn_of _ (by decide +kernel)) ggX4_enter_X4_refuseOutside
set_option maxRecDepth 20000 in
theorem ggX4_enter_X0_init : GoodIn wsX4_enter wsX0_init := goodIn_r _ [28, 29, 30, 31, 32, 33, 34, 35, 36, 37, 38, 51, 52, 53, 54, 55, 56, 57] (by decide +kernel) (by decide +kernel)
set_option maxRecDepth 20000 in
theorem gX4_enter_X0_init : GoodIn wsX4_enter (wsX0_init) := ggX4_enter_X0_init
theorem dX4_enter_0 : decode cX4_enter 0 = .ok (.aload_n 0, 1) := by decide +kernel
theorem dX4_enter_1 : decode cX4_enter 1 = .ok (.iload_n 1, 1) := by decide +kernel
theorem dX4_enter_2 : decode cX4_enter 2 = .ok (.invokevirtual 83, 3) := by decide +kernel
theorem dX4_enter_5 : decode cX4_enter 5 = .ok (.astore 4, 2) := by decide +kernel
theorem dX4_enter_7 : decode cX4_enter 7 = .ok (.iload_n 2, 1) := by decide +kernel
theorem dX4_enter_8 : decode cX4_enter 8 = .ok (.iconst 1, 1) := by decide +kernel
theorem dX4_enter_9 : decode cX4_enter 9 = .ok (.ldc 64, 2) := by decide +kernel
theorem dX4_enter_11 : decode cX4_enter 11 = .ok (.invokestatic 51, 3) := by decide +kernel
theorem dX4_enter_14 : decode cX4_enter 14 = .ok (.iload_n 3, 1) := by decide +kernel
theorem dX4_enter_15 : decode cX4_enter 15 = .ok (.iconst 0, 1) := by decide +kernel
theorem dX4_enter_16 : decode cX4_enter 16 = .ok (.ldc 87, 2) := by decide +kernel
theorem dX4_enter_18 : decode cX4_enter 18 = .ok (.invokestatic 51, 3) := by decide +kernel
theorem dX4_enter_21 : decode cX4_enter 21 = .ok (.aload 4, 2) := by decide +kernel
theorem dX4_enter_23 : decode cX4_enter 23 = .ok (.getfield 88, 3) := by decide +kernel
theorem dX4_enter_26 : decode cX4_enter 26 = .ok (.ifCond .eq 13, 3) := by decide +kernel
theorem dX4_enter_29 : decode cX4_enter 29 = .ok (.new 73, 3) := by decide +kernel
theorem dX4_enter_32 : decode cX4_enter 32 = .ok (.dup, 1) := by decide +kernel
theorem dX4_enter_33 : decode cX4_enter 33 = .ok (.ldc 91, 2) := by decide +kernel
theorem dX4_enter_35 : decode cX4_enter 35 = .ok (.invokespecial 77, 3) := by decide +kernel
theorem dX4_enter_38 : decode cX4_enter 38 = .ok (.athrow, 1) := by decide +kernel
theorem dX4_enter_39 : decode cX4_enter 39 = .ok (.aload_n 0, 1) := by decide +kernel
theorem dX4_enter_40 : decode cX4_enter 40 = .ok (.getfield 37, 3) := by decide +kernel
theorem dX4_enter_43 : decode cX4_enter 43 = .ok (.bipush 60, 2) := by decide +kernel
theorem dX4_enter_45 : decode cX4_enter 45 = .ok (.if_icmp .lt 13, 3) := by decide +kernel
theorem dX4_enter_48 : decode cX4_enter 48 = .ok (.new 73, 3) := by decide +kernel
theorem dX4_enter_51 : decode cX4_enter 51 = .ok (.dup, 1) := by decide +kernel
theorem dX4_enter_52 : decode cX4_enter 52 = .ok (.ldc 93, 2) := by decide +kernel
theorem dX4_enter_54 : decode cX4_enter 54 = .ok (.invokespecial 77, 3) := by decide +kernel
theorem dX4_enter_57 : decode cX4_enter 57 = .ok (.athrow, 1) := by decide +kernel
theorem dX4_enter_58 : decode cX4_enter 58 = .ok (.aload_n 0, 1) := by decide +kernel
theorem dX4_enter_59 : decode cX4_enter 59 = .ok (.getfield 37, 3) := by decide +kernel
theorem dX4_enter_62 : decode cX4_enter 62 = .ok (.istore 5, 2) := by decide +kernel
theorem dX4_enter_64 : decode cX4_enter 64 = .ok (.aload_n 0, 1) := by decide +kernel
theorem dX4_enter_65 : decode cX4_enter 65 = .ok (.getfield 33, 3) := by decide +kernel
theorem dX4_enter_68 : decode cX4_enter 68 = .ok (.iload 5, 2) := by decide +kernel
theorem dX4_enter_70 : decode cX4_enter 70 = .ok (.new 31, 3) := by decide +kernel
theorem dX4_enter_73 : decode cX4_enter 73 = .ok (.dup, 1) := by decide +kernel
theorem dX4_enter_74 : decode cX4_enter 74 = .ok (.aload 4, 2) := by decide +kernel
theorem dX4_enter_76 : decode cX4_enter 76 = .ok (.iload_n 2, 1) := by decide +kernel
theorem dX4_enter_77 : decode cX4_enter 77 = .ok (.iload_n 3, 1) := by decide +kernel
theorem dX4_enter_78 : decode cX4_enter 78 = .ok (.invokespecial 95, 3) := by decide +kernel
theorem dX4_enter_81 : decode cX4_enter 81 = .ok (.aastore, 1) := by decide +kernel
theorem dX4_enter_82 : decode cX4_enter 82 = .ok (.aload_n 0, 1) := by decide +kernel
theorem dX4_enter_83 : decode cX4_enter 83 = .ok (.dup, 1) := by decide +kernel
theorem dX4_enter_84 : decode cX4_enter 84 = .ok (.getfield 37, 3) := by decide +kernel
theorem dX4_enter_87 : decode cX4_enter 87 = .ok (.iconst 1, 1) := by decide +kernel
theorem dX4_enter_88 : decode cX4_enter 88 = .ok (.iadd, 1) := by decide +kernel
theorem dX4_enter_89 : decode cX4_enter 89 = .ok (.putfield 37, 3) := by decide +kernel
theorem dX4_enter_92 : decode cX4_enter 92 = .ok (.aload 4, 2) := by decide +kernel
theorem dX4_enter_94 : decode cX4_enter 94 = .ok (.dup, 1) := by decide +kernel
theorem dX4_enter_95 : decode cX4_enter 95 = .ok (.getfield 98, 3) := by decide +kernel
theorem dX4_enter_98 : decode cX4_enter 98 = .ok (.iconst 1, 1) := by decide +kernel
theorem dX4_enter_99 : decode cX4_enter 99 = .ok (.iadd, 1) := by decide +kernel
theorem dX4_enter_100 : decode cX4_enter 100 = .ok (.putfield 98, 3) := by decide +kernel
theorem dX4_enter_103 : decode cX4_enter 103 = .ok (.iload 5, 2) := by decide +kernel
theorem dX4_enter_105 : decode cX4_enter 105 = .ok (.ireturn, 1) := by decide +kernel
set_option maxRecDepth 20000 in
theorem ggX4_send_X4_fileAt : GoodIn wsX4_send wsX4_fileAt := goodIn_ca (goodIn_r _ [12, 13, 14, 15, 16, 87, 88, 89, 90, 91, 92, 93] (by decide +kernel) (by decide +kernel)) (goodIn_sub (fun _ h => List.mem_cons_of_mem _ (List.mem_append_left _ (List.mem_append_right _ h))) (by decide +kernel))
set_option maxRecDepth 20000 in
theorem gX4_send_X4_fileAt : GoodIn wsX4_send (wsV RX4 83 RX4 yX4_fileAt wsX4_fileAt) := goodIn_app (goodIn_of _ (by decide +kernel)) ggX4_send_X4_fileAt
set_option maxRecDepth 20000 in
theorem ggX4_send_X4_refuseOutside : GoodIn wsX4_send wsX4_refuseOutside := goodIn_ca (goodIn_r _ [19, 20, 21] (by decide +kernel) (by decide +kernel)) (goodIn_sub (fun _ h => List.mem_cons_of_mem _ (List.mem_append_right _ h)) (by decide +kernel))
set_option maxRecDepth 20000 in
theorem gX4_send_X4_refuseOutside : GoodIn wsX4_send (va_wsS RX4 51 yX4_refuseOutside wsX4_refuseOutside) := goodIn_app (goodIn_of _ (by decide +kernel)) ggX4_send_X4_refuseOutside
set_option maxRecDepth 20000 in
theorem ggX4_send_X4_waitingFile : GoodIn wsX4_send wsX4_waitingFile := goodIn_r _ [25, 15, 16, 5, 3, 7, 87, 88, 89, 90, 91, 92, 93, 75, 76, 77, 78, 79] (by decide +kernel) (by decide +kernel)
set_option maxRecDepth 20000 in
theorem gX4_send_X4_waitingFile : GoodIn wsX4_send (wsV RX4 110 RX4 yX4_waitingFile wsX4_waitingFile) := goodIn_app (goodIn_of _ (by decide +kernel)) ggX4_send_X4_waitingFile
set_option maxRecDepth 20000 in
theorem ggX4_send_X4_lookAtAllFrom : GoodIn wsX4_send wsX4_lookAtAllFrom := goodIn_r _ [29, 5, 6, 30, 31, 32, 11, 33, 34, 35, 3, 4, 36, 37, 38, 39, 40, 41, 42, 43, 44, 45, 46, 47, 48, 49, 50, 51, 52, 53, 54, 55, 56, 57, 58, 59, 60, 61, 62, 63, 64, 65, 66, 67, 68, 69, 70, 71, 72, 73, 74, 22, 23, 24, 25, 15, 16, 7, 75, 76, 77, 78, 79, 80, 81, 82, 83, 84, 85, 86, 87, 88, 89, 90, 91, 92, 93, 94, 95, 96, 97, 98, 99, 100, 101, 102, 103, 104] (by decide +kernel) (by decide +kernel)
set_option maxRecDepth 20000 in
theorem gX4_send_X4_lookAtAllFrom : GoodIn wsX4_send (wsV RX4 117 RX4 yX4_lookAtAllFrom wsX4_lookAtAllFrom) := goodIn_app (goodIn_of _ (by decide +kernel)) ggX4_send_X4_lookAtAllFrom
theorem dX4_send_0 : decode cX4_send 0 = .ok (.aload_n 0, 1) := by decide +kernel
theorem dX4_send_1 : decode cX4_send 1 = .ok (.iload_n 1, 1) := by decide +kernel
theorem dX4_send_2 : decode cX4_send 2 = .ok (.invokevirtual 83, 3) := by decide +kernel
theorem dX4_send_5 : decode cX4_send 5 = .ok (.astore_n 3, 1) := by decide +kernel
theorem dX4_send_6 : decode cX4_send 6 = .ok (.iload_n 2, 1) := by decide +kernel
theorem dX4_send_7 : decode cX4_send 7 = .ok (.iconst 1, 1) := by decide +kernel
theorem dX4_send_8 : decode cX4_send 8 = .ok (.bipush 99, 2) := by decide +kernel
theorem dX4_send_10 : decode cX4_send 10 = .ok (.invokestatic 51, 3) := by decide +kernel
theorem dX4_send_13 : decode cX4_send 13 = .ok (.aload_n 3, 1) := by decide +kernel
theorem dX4_send_14 : decode cX4_send 14 = .ok (.getfield 88, 3) := by decide +kernel
theorem dX4_send_17 : decode cX4_send 17 = .ok (.ifCond .ne 10, 3) := by decide +kernel
theorem dX4_send_20 : decode cX4_send 20 = .ok (.aload_n 3, 1) := by decide +kernel
theorem dX4_send_21 : decode cX4_send 21 = .ok (.getfield 98, 3) := by decide +kernel
theorem dX4_send_24 : decode cX4_send 24 = .ok (.ifCond .ne 13, 3) := by decide +kernel
theorem dX4_send_27 : decode cX4_send 27 = .ok (.new 73, 3) := by decide +kernel
theorem dX4_send_30 : decode cX4_send 30 = .ok (.dup, 1) := by decide +kernel
theorem dX4_send_31 : decode cX4_send 31 = .ok (.ldc 101, 2) := by decide +kernel
theorem dX4_send_33 : decode cX4_send 33 = .ok (.invokespecial 77, 3) := by decide +kernel
theorem dX4_send_36 : decode cX4_send 36 = .ok (.athrow, 1) := by decide +kernel
theorem dX4_send_37 : decode cX4_send 37 = .ok (.aload_n 3, 1) := by decide +kernel
theorem dX4_send_38 : decode cX4_send 38 = .ok (.getfield 103, 3) := by decide +kernel
theorem dX4_send_41 : decode cX4_send 41 = .ok (.astore 4, 2) := by decide +kernel
theorem dX4_send_43 : decode cX4_send 43 = .ok (.iload_n 2, 1) := by decide +kernel
theorem dX4_send_44 : decode cX4_send 44 = .ok (.aload 4, 2) := by decide +kernel
theorem dX4_send_46 : decode cX4_send 46 = .ok (.getfield 107, 3) := by decide +kernel
theorem dX4_send_49 : decode cX4_send 49 = .ok (.if_icmp .lt 13, 3) := by decide +kernel
theorem dX4_send_52 : decode cX4_send 52 = .ok (.aload_n 0, 1) := by decide +kernel
theorem dX4_send_53 : decode cX4_send 53 = .ok (.aload 4, 2) := by decide +kernel
theorem dX4_send_55 : decode cX4_send 55 = .ok (.iload_n 2, 1) := by decide +kernel
theorem dX4_send_56 : decode cX4_send 56 = .ok (.invokevirtual 110, 3) := by decide +kernel
theorem dX4_send_59 : decode cX4_send 59 = .ok (.ifnull 11, 3) := by decide +kernel
theorem dX4_send_62 : decode cX4_send 62 = .ok (.aload_n 3, 1) := by decide +kernel
theorem dX4_send_63 : decode cX4_send 63 = .ok (.iconst 1, 1) := by decide +kernel
theorem dX4_send_64 : decode cX4_send 64 = .ok (.putfield 88, 3) := by decide +kernel
theorem dX4_send_67 : decode cX4_send 67 = .ok (.goto 30, 3) := by decide +kernel
theorem dX4_send_70 : decode cX4_send 70 = .ok (.iload_n 2, 1) := by decide +kernel
theorem dX4_send_71 : decode cX4_send 71 = .ok (.aload 4, 2) := by decide +kernel
theorem dX4_send_73 : decode cX4_send 73 = .ok (.getfield 107, 3) := by decide +kernel
theorem dX4_send_76 : decode cX4_send 76 = .ok (.if_icmp .le 16, 3) := by decide +kernel
theorem dX4_send_79 : decode cX4_send 79 = .ok (.aload_n 3, 1) := by decide +kernel
theorem dX4_send_80 : decode cX4_send 80 = .ok (.iload_n 2, 1) := by decide +kernel
theorem dX4_send_81 : decode cX4_send 81 = .ok (.putfield 114, 3) := by decide +kernel
theorem dX4_send_84 : decode cX4_send 84 = .ok (.aload_n 3, 1) := by decide +kernel
theorem dX4_send_85 : decode cX4_send 85 = .ok (.iconst 2, 1) := by decide +kernel
theorem dX4_send_86 : decode cX4_send 86 = .ok (.putfield 88, 3) := by decide +kernel
theorem dX4_send_89 : decode cX4_send 89 = .ok (.goto 8, 3) := by decide +kernel
theorem dX4_send_92 : decode cX4_send 92 = .ok (.aload_n 0, 1) := by decide +kernel
theorem dX4_send_93 : decode cX4_send 93 = .ok (.aload_n 3, 1) := by decide +kernel
theorem dX4_send_94 : decode cX4_send 94 = .ok (.invokevirtual 117, 3) := by decide +kernel
theorem dX4_send_97 : decode cX4_send 97 = .ok (.aload_n 3, 1) := by decide +kernel
theorem dX4_send_98 : decode cX4_send 98 = .ok (.getfield 88, 3) := by decide +kernel
theorem dX4_send_101 : decode cX4_send 101 = .ok (.ireturn, 1) := by decide +kernel
set_option maxRecDepth 20000 in
theorem ggX4_stateOf_X4_fileAt : GoodIn wsX4_stateOf wsX4_fileAt := goodIn_ca (goodIn_r _ [6, 7, 8, 9, 10, 16, 17, 18, 19, 20, 21, 22] (by decide +kernel) (by decide +kernel)) (goodIn_sub (fun _ h => List.mem_cons_of_mem _ (List.mem_append_right _ h)) (by decide +kernel))
set_option maxRecDepth 20000 in
theorem gX4_stateOf_X4_fileAt : GoodIn wsX4_stateOf (wsV RX4 83 RX4 yX4_fileAt wsX4_fileAt) := goodIn_app (goodIn_of _ (by decide +kernel)) ggX4_stateOf_X4_fileAt
theorem dX4_stateOf_0 : decode cX4_stateOf 0 = .ok (.aload_n 0, 1) := by decide +kernel
theorem dX4_stateOf_1 : decode cX4_stateOf 1 = .ok (.iload_n 1, 1) := by decide +kernel
theorem dX4_stateOf_2 : decode cX4_stateOf 2 = .ok (.invokevirtual 83, 3) := by decide +kernel
theorem dX4_stateOf_5 : decode cX4_stateOf 5 = .ok (.getfield 88, 3) := by decide +kernel
theorem dX4_stateOf_8 : decode cX4_stateOf 8 = .ok (.ireturn, 1) := by decide +kernel
set_option maxRecDepth 20000 in
theorem ggX4_expected_X4_pairAt : GoodIn wsX4_expected wsX4_pairAt := goodIn_ca (goodIn_ca (goodIn_r _ [6, 7, 8, 9, 10, 11, 12, 13, 5, 14, 22, 23, 24, 25, 26, 27, 28] (by decide +kernel) (by decide +kernel)) (goodIn_sub (fun _ h => List.mem_cons_of_mem _ (List.mem_append_left _ (List.mem_append_right _ h))) (by decide +kernel))) (goodIn_sub (fun _ h => List.mem_cons_of_mem _ (List.mem_append_right _ h)) (by decide +kernel))
set_option maxRecDepth 20000 in
theorem gX4_expected_X4_pairAt : GoodIn wsX4_expected (wsV RX4 69 RX4 yX4_pairAt wsX4_pairAt) := goodIn_app (goodIn_of _ (by decide +kernel)) ggX4_expected_X4_pairAt
theorem dX4_expected_0 : decode cX4_expected 0 = .ok (.aload_n 0, 1) := by decide +kernel
theorem dX4_expected_1 : decode cX4_expected 1 = .ok (.iload_n 1, 1) := by decide +kernel
theorem dX4_expected_2 : decode cX4_expected 2 = .ok (.iload_n 2, 1) := by decide +kernel
theorem dX4_expected_3 : decode cX4_expected 3 = .ok (.invokevirtual 69, 3) := by decide +kernel
theorem dX4_expected_6 : decode cX4_expected 6 = .ok (.getfield 107, 3) := by decide +kernel
theorem dX4_expected_9 : decode cX4_expected 9 = .ok (.ireturn, 1) := by decide +kernel
set_option maxRecDepth 20000 in
theorem ggX4_lacking_X4_pairAt : GoodIn wsX4_lacking wsX4_pairAt := goodIn_ca (goodIn_ca (goodIn_r _ [15, 16, 17, 18, 19, 20, 21, 22, 14, 23, 24, 25, 26, 27, 28, 29, 30] (by decide +kernel) (by decide +kernel)) (goodIn_sub (fun _ h => List.mem_cons_of_mem _ (List.mem_append_left _ (List.mem_append_right _ h))) (by decide +kernel))) (goodIn_sub (fun _ h => List.mem_cons_of_mem _ (List.mem_append_right _ h)) (by decide +kernel))
set_option maxRecDepth 20000 in
theorem gX4_lacking_X4_pairAt : GoodIn wsX4_lacking (wsV RX4 69 RX4 yX4_pairAt wsX4_pairAt) := goodIn_app (goodIn_of _ (by decide +kernel)) ggX4_lacking_X4_pairAt
theorem dX4_lacking_0 : decode cX4_lacking 0 = .ok (.aload_n 0, 1) := by decide +kernel
theorem dX4_lacking_1 : decode cX4_lacking 1 = .ok (.iload_n 1, 1) := by decide +kernel
theorem dX4_lacking_2 : decode cX4_lacking 2 = .ok (.iload_n 2, 1) := by decide +kernel
theorem dX4_lacking_3 : decode cX4_lacking 3 = .ok (.invokevirtual 69, 3) := by decide +kernel
theorem dX4_lacking_6 : decode cX4_lacking 6 = .ok (.astore_n 3, 1) := by decide +kernel
theorem dX4_lacking_7 : decode cX4_lacking 7 = .ok (.iconst 0, 1) := by decide +kernel
theorem dX4_lacking_8 : decode cX4_lacking 8 = .ok (.istore 4, 2) := by decide +kernel
theorem dX4_lacking_10 : decode cX4_lacking 10 = .ok (.iconst 0, 1) := by decide +kernel
theorem dX4_lacking_11 : decode cX4_lacking 11 = .ok (.istore 5, 2) := by decide +kernel
theorem dX4_lacking_13 : decode cX4_lacking 13 = .ok (.iconst 0, 1) := by decide +kernel
theorem dX4_lacking_14 : decode cX4_lacking 14 = .ok (.istore 6, 2) := by decide +kernel
theorem dX4_lacking_16 : decode cX4_lacking 16 = .ok (.iload 6, 2) := by decide +kernel
theorem dX4_lacking_18 : decode cX4_lacking 18 = .ok (.aload_n 0, 1) := by decide +kernel
theorem dX4_lacking_19 : decode cX4_lacking 19 = .ok (.getfield 27, 3) := by decide +kernel
theorem dX4_lacking_22 : decode cX4_lacking 22 = .ok (.if_icmp .ge 51, 3) := by decide +kernel
theorem dX4_lacking_25 : decode cX4_lacking 25 = .ok (.aload_n 0, 1) := by decide +kernel
theorem dX4_lacking_26 : decode cX4_lacking 26 = .ok (.getfield 23, 3) := by decide +kernel
theorem dX4_lacking_29 : decode cX4_lacking 29 = .ok (.iload 6, 2) := by decide +kernel
theorem dX4_lacking_31 : decode cX4_lacking 31 = .ok (.aaload, 1) := by decide +kernel
theorem dX4_lacking_32 : decode cX4_lacking 32 = .ok (.astore 7, 2) := by decide +kernel
theorem dX4_lacking_34 : decode cX4_lacking 34 = .ok (.aload 7, 2) := by decide +kernel
theorem dX4_lacking_36 : decode cX4_lacking 36 = .ok (.getfield 103, 3) := by decide +kernel
theorem dX4_lacking_39 : decode cX4_lacking 39 = .ok (.aload_n 3, 1) := by decide +kernel
theorem dX4_lacking_40 : decode cX4_lacking 40 = .ok (.if_acmp .ne 27, 3) := by decide +kernel
theorem dX4_lacking_43 : decode cX4_lacking 43 = .ok (.aload 7, 2) := by decide +kernel
theorem dX4_lacking_45 : decode cX4_lacking 45 = .ok (.getfield 88, 3) := by decide +kernel
theorem dX4_lacking_48 : decode cX4_lacking 48 = .ok (.iconst 2, 1) := by decide +kernel
theorem dX4_lacking_49 : decode cX4_lacking 49 = .ok (.if_icmp .ne 18, 3) := by decide +kernel
theorem dX4_lacking_52 : decode cX4_lacking 52 = .ok (.iinc 4 1, 3) := by decide +kernel
theorem dX4_lacking_55 : decode cX4_lacking 55 = .ok (.iload 5, 2) := by decide +kernel
theorem dX4_lacking_57 : decode cX4_lacking 57 = .ok (.aload 7, 2) := by decide +kernel
theorem dX4_lacking_59 : decode cX4_lacking 59 = .ok (.getfield 114, 3) := by decide +kernel
theorem dX4_lacking_62 : decode cX4_lacking 62 = .ok (.invokestatic 121, 3) := by decide +kernel
theorem dX4_lacking_65 : decode cX4_lacking 65 = .ok (.istore 5, 2) := by decide +kernel
theorem dX4_lacking_67 : decode cX4_lacking 67 = .ok (.iinc 6 1, 3) := by decide +kernel
theorem dX4_lacking_70 : decode cX4_lacking 70 = .ok (.goto (-54), 3) := by decide +kernel
theorem dX4_lacking_73 : decode cX4_lacking 73 = .ok (.iload 4, 2) := by decide +kernel
theorem dX4_lacking_75 : decode cX4_lacking 75 = .ok (.ifCond .ne 7, 3) := by decide +kernel
theorem dX4_lacking_78 : decode cX4_lacking 78 = .ok (.iconst 0, 1) := by decide +kernel
theorem dX4_lacking_79 : decode cX4_lacking 79 = .ok (.goto 15, 3) := by decide +kernel
theorem dX4_lacking_82 : decode cX4_lacking 82 = .ok (.iload 5, 2) := by decide +kernel
theorem dX4_lacking_84 : decode cX4_lacking 84 = .ok (.aload_n 3, 1) := by decide +kernel
theorem dX4_lacking_85 : decode cX4_lacking 85 = .ok (.getfield 107, 3) := by decide +kernel
theorem dX4_lacking_88 : decode cX4_lacking 88 = .ok (.isub, 1) := by decide +kernel
theorem dX4_lacking_89 : decode cX4_lacking 89 = .ok (.iconst 1, 1) := by decide +kernel
theorem dX4_lacking_90 : decode cX4_lacking 90 = .ok (.iadd, 1) := by decide +kernel
theorem dX4_lacking_91 : decode cX4_lacking 91 = .ok (.iload 4, 2) := by decide +kernel
theorem dX4_lacking_93 : decode cX4_lacking 93 = .ok (.isub, 1) := by decide +kernel
theorem dX4_lacking_94 : decode cX4_lacking 94 = .ok (.ireturn, 1) := by decide +kernel
theorem dX4_calls_0 : decode cX4_calls 0 = .ok (.aload_n 0, 1) := by decide +kernel
theorem dX4_calls_1 : decode cX4_calls 1 = .ok (.getfield 37, 3) := by decide +kernel
theorem dX4_calls_4 : decode cX4_calls 4 = .ok (.ireturn, 1) := by decide +kernel
set_option maxRecDepth 20000 in
theorem ggX4_call_X4_callAt : GoodIn wsX4_call wsX4_callAt := goodIn_ca (goodIn_r _ [6, 7, 8, 9, 10, 18, 19, 20, 21, 22, 23, 24] (by decide +kernel) (by decide +kernel)) (goodIn_sub (fun _ h => List.mem_cons_of_mem _ (List.mem_append_right _ h)) (by decide +kernel))
set_option maxRecDepth 20000 in
theorem gX4_call_X4_callAt : GoodIn wsX4_call (wsV RX4 127 RX4 yX4_callAt wsX4_callAt) := goodIn_app (goodIn_of _ (by decide +kernel)) ggX4_call_X4_callAt
theorem dX4_call_0 : decode cX4_call 0 = .ok (.aload_n 0, 1) := by decide +kernel
theorem dX4_call_1 : decode cX4_call 1 = .ok (.iload_n 1, 1) := by decide +kernel
theorem dX4_call_2 : decode cX4_call 2 = .ok (.invokevirtual 127, 3) := by decide +kernel
theorem dX4_call_5 : decode cX4_call 5 = .ok (.getfield 131, 3) := by decide +kernel
theorem dX4_call_8 : decode cX4_call 8 = .ok (.ireturn, 1) := by decide +kernel
set_option maxRecDepth 20000 in
theorem ggX4_monthOf_X4_callAt : GoodIn wsX4_monthOf wsX4_callAt := goodIn_ca (goodIn_r _ [6, 7, 8, 9, 10, 18, 19, 20, 21, 22, 23, 24] (by decide +kernel) (by decide +kernel)) (goodIn_sub (fun _ h => List.mem_cons_of_mem _ (List.mem_append_right _ h)) (by decide +kernel))
set_option maxRecDepth 20000 in
theorem gX4_monthOf_X4_callAt : GoodIn wsX4_monthOf (wsV RX4 127 RX4 yX4_callAt wsX4_callAt) := goodIn_app (goodIn_of _ (by decide +kernel)) ggX4_monthOf_X4_callAt
theorem dX4_monthOf_0 : decode cX4_monthOf 0 = .ok (.aload_n 0, 1) := by decide +kernel
theorem dX4_monthOf_1 : decode cX4_monthOf 1 = .ok (.iload_n 1, 1) := by decide +kernel
theorem dX4_monthOf_2 : decode cX4_monthOf 2 = .ok (.invokevirtual 127, 3) := by decide +kernel
theorem dX4_monthOf_5 : decode cX4_monthOf 5 = .ok (.getfield 132, 3) := by decide +kernel
theorem dX4_monthOf_8 : decode cX4_monthOf 8 = .ok (.ireturn, 1) := by decide +kernel
set_option maxRecDepth 20000 in
theorem ggX4_owedFor_X4_callAt : GoodIn wsX4_owedFor wsX4_callAt := goodIn_ca (goodIn_r _ [5, 6, 7, 8, 9, 33, 34, 35, 36, 37, 38, 39] (by decide +kernel) (by decide +kernel)) (goodIn_sub (fun _ h => List.mem_cons_of_mem _ (List.mem_append_right _ h)) (by decide +kernel))
set_option maxRecDepth 20000 in
theorem gX4_owedFor_X4_callAt : GoodIn wsX4_owedFor (wsV RX4 127 RX4 yX4_callAt wsX4_callAt) := goodIn_app (goodIn_of _ (by decide +kernel)) ggX4_owedFor_X4_callAt
set_option maxRecDepth 20000 in
theorem ggX4_owedFor_X0_amount : GoodIn wsX4_owedFor wsX0_amount := goodIn_r _ [14, 15, 16, 17, 18, 19, 20, 21, 22, 23, 4, 24, 25, 26, 27, 28, 29, 30, 31, 32, 40, 41, 42, 43, 44, 45, 46, 47, 48, 49, 50, 51, 52, 53, 54, 55, 56, 57, 58] (by decide +kernel) (by decide +kernel)
set_option maxRecDepth 20000 in
theorem gX4_owedFor_X0_amount : GoodIn wsX4_owedFor (wsV RX4 135 RX0 yX0_amount wsX0_amount) := goodIn_app (goodIn_of _ (by decide +kernel)) ggX4_owedFor_X0_amount
theorem dX4_owedFor_0 : decode cX4_owedFor 0 = .ok (.aload_n 0, 1) := by decide +kernel
theorem dX4_owedFor_1 : decode cX4_owedFor 1 = .ok (.iload_n 1, 1) := by decide +kernel
theorem dX4_owedFor_2 : decode cX4_owedFor 2 = .ok (.invokevirtual 127, 3) := by decide +kernel
theorem dX4_owedFor_5 : decode cX4_owedFor 5 = .ok (.invokevirtual 135, 3) := by decide +kernel
theorem dX4_owedFor_8 : decode cX4_owedFor 8 = .ok (.ireturn, 1) := by decide +kernel
set_option maxRecDepth 20000 in
theorem ggX4_dispute_X4_callAt : GoodIn wsX4_dispute wsX4_callAt := goodIn_ca (goodIn_r _ [11, 12, 13, 14, 15, 23, 24, 25, 26, 27, 28, 29] (by decide +kernel) (by decide +kernel)) (goodIn_sub (fun _ h => List.mem_cons_of_mem _ (List.mem_append_right _ h)) (by decide +kernel))
set_option maxRecDepth 20000 in
theorem gX4_dispute_X4_callAt : GoodIn wsX4_dispute (wsV RX4 127 RX4 yX4_callAt wsX4_callAt) := goodIn_app (goodIn_of _ (by decide +kernel)) ggX4_dispute_X4_callAt
theorem dX4_dispute_0 : decode cX4_dispute 0 = .ok (.aload_n 0, 1) := by decide +kernel
theorem dX4_dispute_1 : decode cX4_dispute 1 = .ok (.iload_n 1, 1) := by decide +kernel
theorem dX4_dispute_2 : decode cX4_dispute 2 = .ok (.invokevirtual 127, 3) := by decide +kernel
theorem dX4_dispute_5 : decode cX4_dispute 5 = .ok (.astore_n 2, 1) := by decide +kernel
theorem dX4_dispute_6 : decode cX4_dispute 6 = .ok (.aload_n 2, 1) := by decide +kernel
theorem dX4_dispute_7 : decode cX4_dispute 7 = .ok (.getfield 131, 3) := by decide +kernel
theorem dX4_dispute_10 : decode cX4_dispute 10 = .ok (.iconst 1, 1) := by decide +kernel
theorem dX4_dispute_11 : decode cX4_dispute 11 = .ok (.if_icmp .eq 13, 3) := by decide +kernel
theorem dX4_dispute_14 : decode cX4_dispute 14 = .ok (.new 73, 3) := by decide +kernel
theorem dX4_dispute_17 : decode cX4_dispute 17 = .ok (.dup, 1) := by decide +kernel
theorem dX4_dispute_18 : decode cX4_dispute 18 = .ok (.ldc 139, 2) := by decide +kernel
theorem dX4_dispute_20 : decode cX4_dispute 20 = .ok (.invokespecial 77, 3) := by decide +kernel
theorem dX4_dispute_23 : decode cX4_dispute 23 = .ok (.athrow, 1) := by decide +kernel
theorem dX4_dispute_24 : decode cX4_dispute 24 = .ok (.aload_n 0, 1) := by decide +kernel
theorem dX4_dispute_25 : decode cX4_dispute 25 = .ok (.getfield 40, 3) := by decide +kernel
theorem dX4_dispute_28 : decode cX4_dispute 28 = .ok (.aload_n 2, 1) := by decide +kernel
theorem dX4_dispute_29 : decode cX4_dispute 29 = .ok (.getfield 132, 3) := by decide +kernel
theorem dX4_dispute_32 : decode cX4_dispute 32 = .ok (.isub, 1) := by decide +kernel
theorem dX4_dispute_33 : decode cX4_dispute 33 = .ok (.iconst 1, 1) := by decide +kernel
theorem dX4_dispute_34 : decode cX4_dispute 34 = .ok (.if_icmp .le 13, 3) := by decide +kernel
theorem dX4_dispute_37 : decode cX4_dispute 37 = .ok (.new 73, 3) := by decide +kernel
theorem dX4_dispute_40 : decode cX4_dispute 40 = .ok (.dup, 1) := by decide +kernel
theorem dX4_dispute_41 : decode cX4_dispute 41 = .ok (.ldc 141, 2) := by decide +kernel
theorem dX4_dispute_43 : decode cX4_dispute 43 = .ok (.invokespecial 77, 3) := by decide +kernel
theorem dX4_dispute_46 : decode cX4_dispute 46 = .ok (.athrow, 1) := by decide +kernel
theorem dX4_dispute_47 : decode cX4_dispute 47 = .ok (.aload_n 2, 1) := by decide +kernel
theorem dX4_dispute_48 : decode cX4_dispute 48 = .ok (.iconst 2, 1) := by decide +kernel
theorem dX4_dispute_49 : decode cX4_dispute 49 = .ok (.putfield 131, 3) := by decide +kernel
theorem dX4_dispute_52 : decode cX4_dispute 52 = .ok (.aload_n 2, 1) := by decide +kernel
theorem dX4_dispute_53 : decode cX4_dispute 53 = .ok (.aload_n 0, 1) := by decide +kernel
theorem dX4_dispute_54 : decode cX4_dispute 54 = .ok (.getfield 40, 3) := by decide +kernel
theorem dX4_dispute_57 : decode cX4_dispute 57 = .ok (.putfield 143, 3) := by decide +kernel
theorem dX4_dispute_60 : decode cX4_dispute 60 = .ok (.return_, 1) := by decide +kernel
set_option maxRecDepth 20000 in
theorem ggX4_answer_X4_callAt : GoodIn wsX4_answer wsX4_callAt := goodIn_ca (goodIn_r _ [8, 9, 10, 11, 12, 20, 21, 22, 23, 24, 25, 26] (by decide +kernel) (by decide +kernel)) (goodIn_sub (fun _ h => List.mem_cons_of_mem _ (List.mem_append_right _ h)) (by decide +kernel))
set_option maxRecDepth 20000 in
theorem gX4_answer_X4_callAt : GoodIn wsX4_answer (wsV RX4 127 RX4 yX4_callAt wsX4_callAt) := goodIn_app (goodIn_of _ (by decide +kernel)) ggX4_answer_X4_callAt
theorem dX4_answer_0 : decode cX4_answer 0 = .ok (.aload_n 0, 1) := by decide +kernel
theorem dX4_answer_1 : decode cX4_answer 1 = .ok (.iload_n 1, 1) := by decide +kernel
theorem dX4_answer_2 : decode cX4_answer 2 = .ok (.invokevirtual 127, 3) := by decide +kernel
theorem dX4_answer_5 : decode cX4_answer 5 = .ok (.astore_n 3, 1) := by decide +kernel
theorem dX4_answer_6 : decode cX4_answer 6 = .ok (.aload_n 3, 1) := by decide +kernel
theorem dX4_answer_7 : decode cX4_answer 7 = .ok (.getfield 131, 3) := by decide +kernel
theorem dX4_answer_10 : decode cX4_answer 10 = .ok (.iconst 2, 1) := by decide +kernel
theorem dX4_answer_11 : decode cX4_answer 11 = .ok (.if_icmp .eq 13, 3) := by decide +kernel
theorem dX4_answer_14 : decode cX4_answer 14 = .ok (.new 73, 3) := by decide +kernel
theorem dX4_answer_17 : decode cX4_answer 17 = .ok (.dup, 1) := by decide +kernel
theorem dX4_answer_18 : decode cX4_answer 18 = .ok (.ldc 146, 2) := by decide +kernel
theorem dX4_answer_20 : decode cX4_answer 20 = .ok (.invokespecial 77, 3) := by decide +kernel
theorem dX4_answer_23 : decode cX4_answer 23 = .ok (.athrow, 1) := by decide +kernel
theorem dX4_answer_24 : decode cX4_answer 24 = .ok (.aload_n 3, 1) := by decide +kernel
theorem dX4_answer_25 : decode cX4_answer 25 = .ok (.iload_n 2, 1) := by decide +kernel
theorem dX4_answer_26 : decode cX4_answer 26 = .ok (.ifCond .eq 7, 3) := by decide +kernel
theorem dX4_answer_29 : decode cX4_answer 29 = .ok (.iconst 3, 1) := by decide +kernel
theorem dX4_answer_30 : decode cX4_answer 30 = .ok (.goto 4, 3) := by decide +kernel
theorem dX4_answer_33 : decode cX4_answer 33 = .ok (.iconst 4, 1) := by decide +kernel
theorem dX4_answer_34 : decode cX4_answer 34 = .ok (.putfield 131, 3) := by decide +kernel
theorem dX4_answer_37 : decode cX4_answer 37 = .ok (.return_, 1) := by decide +kernel
set_option maxRecDepth 20000 in
theorem ggX4_agree_X4_pairAt : GoodIn wsX4_agree wsX4_pairAt := goodIn_ca (goodIn_ca (goodIn_r _ [9, 10, 11, 12, 13, 14, 15, 16, 8, 17, 28, 29, 30, 31, 32, 33, 34] (by decide +kernel) (by decide +kernel)) (goodIn_sub (fun _ h => List.mem_cons_of_mem _ (List.mem_append_left _ (List.mem_append_right _ h))) (by decide +kernel))) (goodIn_sub (fun _ h => List.mem_cons_of_mem _ (List.mem_append_right _ h)) (by decide +kernel))
set_option maxRecDepth 20000 in
theorem gX4_agree_X4_pairAt : GoodIn wsX4_agree (wsV RX4 69 RX4 yX4_pairAt wsX4_pairAt) := goodIn_app (goodIn_of _ (by decide +kernel)) ggX4_agree_X4_pairAt
set_option maxRecDepth 20000 in
theorem ggX4_agree_X4_refuseOutside : GoodIn wsX4_agree wsX4_refuseOutside := goodIn_ca (goodIn_r _ [20, 12, 13] (by decide +kernel) (by decide +kernel)) (goodIn_sub (fun _ h => List.mem_cons_of_mem _ (List.mem_append_right _ h)) (by decide +kernel))
set_option maxRecDepth 20000 in
theorem gX4_agree_X4_refuseOutside : GoodIn wsX4_agree (va_wsS RX4 51 yX4_refuseOutside wsX4_refuseOutside) := goodIn_app (goodIn_of _ (by decide +kernel)) ggX4_agree_X4_refuseOutside
theorem dX4_agree_0 : decode cX4_agree 0 = .ok (.aload_n 0, 1) := by decide +kernel
theorem dX4_agree_1 : decode cX4_agree 1 = .ok (.iload_n 1, 1) := by decide +kernel
theorem dX4_agree_2 : decode cX4_agree 2 = .ok (.iload_n 2, 1) := by decide +kernel
theorem dX4_agree_3 : decode cX4_agree 3 = .ok (.invokevirtual 69, 3) := by decide +kernel
theorem dX4_agree_6 : decode cX4_agree 6 = .ok (.astore 6, 2) := by decide +kernel
theorem dX4_agree_8 : decode cX4_agree 8 = .ok (.iload_n 3, 1) := by decide +kernel
theorem dX4_agree_9 : decode cX4_agree 9 = .ok (.iconst 0, 1) := by decide +kernel
theorem dX4_agree_10 : decode cX4_agree 10 = .ok (.ldc 148, 2) := by decide +kernel
theorem dX4_agree_12 : decode cX4_agree 12 = .ok (.invokestatic 51, 3) := by decide +kernel
theorem dX4_agree_15 : decode cX4_agree 15 = .ok (.iload 4, 2) := by decide +kernel
theorem dX4_agree_17 : decode cX4_agree 17 = .ok (.iconst 0, 1) := by decide +kernel
theorem dX4_agree_18 : decode cX4_agree 18 = .ok (.sipush 10000, 3) := by decide +kernel
theorem dX4_agree_21 : decode cX4_agree 21 = .ok (.invokestatic 51, 3) := by decide +kernel
theorem dX4_agree_24 : decode cX4_agree 24 = .ok (.aload 6, 2) := by decide +kernel
theorem dX4_agree_26 : decode cX4_agree 26 = .ok (.iload_n 3, 1) := by decide +kernel
theorem dX4_agree_27 : decode cX4_agree 27 = .ok (.putfield 149, 3) := by decide +kernel
theorem dX4_agree_30 : decode cX4_agree 30 = .ok (.aload 6, 2) := by decide +kernel
theorem dX4_agree_32 : decode cX4_agree 32 = .ok (.iload 4, 2) := by decide +kernel
theorem dX4_agree_34 : decode cX4_agree 34 = .ok (.putfield 152, 3) := by decide +kernel
theorem dX4_agree_37 : decode cX4_agree 37 = .ok (.aload 6, 2) := by decide +kernel
theorem dX4_agree_39 : decode cX4_agree 39 = .ok (.iload 5, 2) := by decide +kernel
theorem dX4_agree_41 : decode cX4_agree 41 = .ok (.putfield 155, 3) := by decide +kernel
theorem dX4_agree_44 : decode cX4_agree 44 = .ok (.return_, 1) := by decide +kernel
set_option maxRecDepth 20000 in
theorem ggX4_promise_X4_pairAt : GoodIn wsX4_promise wsX4_pairAt := goodIn_ca (goodIn_ca (goodIn_r _ [7, 8, 9, 10, 11, 12, 13, 14, 6, 15, 26, 27, 28, 29, 30, 31, 32] (by decide +kernel) (by decide +kernel)) (goodIn_sub (fun _ h => List.mem_cons_of_mem _ (List.mem_append_left _ (List.mem_append_right _ h))) (by decide +kernel))) (goodIn_sub (fun _ h => List.mem_cons_of_mem _ (List.mem_append_right _ h)) (by decide +kernel))
set_option maxRecDepth 20000 in
theorem gX4_promise_X4_pairAt : GoodIn wsX4_promise (wsV RX4 69 RX4 yX4_pairAt wsX4_pairAt) := goodIn_app (goodIn_of _ (by decide +kernel)) ggX4_promise_X4_pairAt
set_option maxRecDepth 20000 in
theorem ggX4_promise_X4_refuseOutside : GoodIn wsX4_promise wsX4_refuseOutside := goodIn_ca (goodIn_r _ [18, 10, 11] (by decide +kernel) (by decide +kernel)) (goodIn_sub (fun _ h => List.mem_cons_of_mem _ (List.mem_append_right _ h)) (by decide +kernel))
set_option maxRecDepth 20000 in
theorem gX4_promise_X4_refuseOutside : GoodIn wsX4_promise (va_wsS RX4 51 yX4_refuseOutside wsX4_refuseOutside) := goodIn_app (goodIn_of _ (by decide +kernel)) ggX4_promise_X4_refuseOutside
theorem dX4_promise_0 : decode cX4_promise 0 = .ok (.aload_n 0, 1) := by decide +kernel
theorem dX4_promise_1 : decode cX4_promise 1 = .ok (.iload_n 1, 1) := by decide +kernel
theorem dX4_promise_2 : decode cX4_promise 2 = .ok (.iload_n 2, 1) := by decide +kernel
theorem dX4_promise_3 : decode cX4_promise 3 = .ok (.invokevirtual 69, 3) := by decide +kernel
theorem dX4_promise_6 : decode cX4_promise 6 = .ok (.astore 4, 2) := by decide +kernel
theorem dX4_promise_8 : decode cX4_promise 8 = .ok (.iload_n 3, 1) := by decide +kernel
theorem dX4_promise_9 : decode cX4_promise 9 = .ok (.iconst 0, 1) := by decide +kernel
theorem dX4_promise_10 : decode cX4_promise 10 = .ok (.ldc 159, 2) := by decide +kernel
theorem dX4_promise_12 : decode cX4_promise 12 = .ok (.invokestatic 51, 3) := by decide +kernel
theorem dX4_promise_15 : decode cX4_promise 15 = .ok (.aload 4, 2) := by decide +kernel
theorem dX4_promise_17 : decode cX4_promise 17 = .ok (.getfield 160, 3) := by decide +kernel
theorem dX4_promise_20 : decode cX4_promise 20 = .ok (.istore 5, 2) := by decide +kernel
theorem dX4_promise_22 : decode cX4_promise 22 = .ok (.aload 4, 2) := by decide +kernel
theorem dX4_promise_24 : decode cX4_promise 24 = .ok (.iload_n 3, 1) := by decide +kernel
theorem dX4_promise_25 : decode cX4_promise 25 = .ok (.putfield 160, 3) := by decide +kernel
theorem dX4_promise_28 : decode cX4_promise 28 = .ok (.iload 5, 2) := by decide +kernel
theorem dX4_promise_30 : decode cX4_promise 30 = .ok (.ireturn, 1) := by decide +kernel
set_option maxRecDepth 20000 in
theorem ggX4_setRate_X4_operatorAt : GoodIn wsX4_setRate wsX4_operatorAt := goodIn_ca (goodIn_r _ [7, 8, 9, 10, 11, 12, 6, 13, 23, 24, 25, 26, 27, 28, 29] (by decide +kernel) (by decide +kernel)) (goodIn_sub (fun _ h => List.mem_cons_of_mem _ (List.mem_append_left _ (List.mem_append_right _ h))) (by decide +kernel))
set_option maxRecDepth 20000 in
theorem gX4_setRate_X4_operatorAt : GoodIn wsX4_setRate (wsV RX4 47 RX4 yX4_operatorAt wsX4_operatorAt) := goodIn_app (goodIn_of _ (by decide +kernel)) ggX4_setRate_X4_operatorAt
set_option maxRecDepth 20000 in
theorem ggX4_setRate_X4_refuseOutside : GoodIn wsX4_setRate wsX4_refuseOutside := goodIn_ca (goodIn_r _ [16, 17, 18] (by decide +kernel) (by decide +kernel)) (goodIn_sub (fun _ h => List.mem_cons_of_mem _ (List.mem_append_right _ h)) (by decide +kernel))
set_option maxRecDepth 20000 in
theorem gX4_setRate_X4_refuseOutside : GoodIn wsX4_setRate (va_wsS RX4 51 yX4_refuseOutside wsX4_refuseOutside) := goodIn_app (goodIn_of _ (by decide +kernel)) ggX4_setRate_X4_refuseOutside
theorem dX4_setRate_0 : decode cX4_setRate 0 = .ok (.aload_n 0, 1) := by decide +kernel
theorem dX4_setRate_1 : decode cX4_setRate 1 = .ok (.iload_n 1, 1) := by decide +kernel
theorem dX4_setRate_2 : decode cX4_setRate 2 = .ok (.invokevirtual 47, 3) := by decide +kernel
theorem dX4_setRate_5 : decode cX4_setRate 5 = .ok (.astore_n 3, 1) := by decide +kernel
theorem dX4_setRate_6 : decode cX4_setRate 6 = .ok (.iload_n 2, 1) := by decide +kernel
theorem dX4_setRate_7 : decode cX4_setRate 7 = .ok (.iconst 1, 1) := by decide +kernel
theorem dX4_setRate_8 : decode cX4_setRate 8 = .ok (.ldc 163, 2) := by decide +kernel
theorem dX4_setRate_10 : decode cX4_setRate 10 = .ok (.invokestatic 51, 3) := by decide +kernel
theorem dX4_setRate_13 : decode cX4_setRate 13 = .ok (.aload_n 3, 1) := by decide +kernel
theorem dX4_setRate_14 : decode cX4_setRate 14 = .ok (.getfield 164, 3) := by decide +kernel
theorem dX4_setRate_17 : decode cX4_setRate 17 = .ok (.istore 4, 2) := by decide +kernel
theorem dX4_setRate_19 : decode cX4_setRate 19 = .ok (.aload_n 3, 1) := by decide +kernel
theorem dX4_setRate_20 : decode cX4_setRate 20 = .ok (.iload_n 2, 1) := by decide +kernel
theorem dX4_setRate_21 : decode cX4_setRate 21 = .ok (.putfield 164, 3) := by decide +kernel
theorem dX4_setRate_24 : decode cX4_setRate 24 = .ok (.iload 4, 2) := by decide +kernel
theorem dX4_setRate_26 : decode cX4_setRate 26 = .ok (.ireturn, 1) := by decide +kernel
set_option maxRecDepth 20000 in
theorem ggX4_nextMonth_X4_giveBackUnanswered : GoodIn wsX4_nextMonth wsX4_giveBackUnanswered := goodIn_r _ [8, 9, 10, 11, 3, 12, 13, 14, 15, 16, 17, 18, 19, 20, 21, 22, 23, 24, 25, 26] (by decide +kernel) (by decide +kernel)
set_option maxRecDepth 20000 in
theorem gX4_nextMonth_X4_giveBackUnanswered : GoodIn wsX4_nextMonth (wsV RX4 169 RX4 yX4_giveBackUnanswered wsX4_giveBackUnanswered) := goodIn_app (goodIn_of _ (by decide +kernel)) ggX4_nextMonth_X4_giveBackUnanswered
theorem dX4_nextMonth_0 : decode cX4_nextMonth 0 = .ok (.aload_n 0, 1) := by decide +kernel
theorem dX4_nextMonth_1 : decode cX4_nextMonth 1 = .ok (.getfield 40, 3) := by decide +kernel
theorem dX4_nextMonth_4 : decode cX4_nextMonth 4 = .ok (.bipush 35, 2) := by decide +kernel
theorem dX4_nextMonth_6 : decode cX4_nextMonth 6 = .ok (.if_icmp .lt 13, 3) := by decide +kernel
theorem dX4_nextMonth_9 : decode cX4_nextMonth 9 = .ok (.new 73, 3) := by decide +kernel
theorem dX4_nextMonth_12 : decode cX4_nextMonth 12 = .ok (.dup, 1) := by decide +kernel
theorem dX4_nextMonth_13 : decode cX4_nextMonth 13 = .ok (.ldc 167, 2) := by decide +kernel
theorem dX4_nextMonth_15 : decode cX4_nextMonth 15 = .ok (.invokespecial 77, 3) := by decide +kernel
theorem dX4_nextMonth_18 : decode cX4_nextMonth 18 = .ok (.athrow, 1) := by decide +kernel
theorem dX4_nextMonth_19 : decode cX4_nextMonth 19 = .ok (.aload_n 0, 1) := by decide +kernel
theorem dX4_nextMonth_20 : decode cX4_nextMonth 20 = .ok (.dup, 1) := by decide +kernel
theorem dX4_nextMonth_21 : decode cX4_nextMonth 21 = .ok (.getfield 40, 3) := by decide +kernel
theorem dX4_nextMonth_24 : decode cX4_nextMonth 24 = .ok (.iconst 1, 1) := by decide +kernel
theorem dX4_nextMonth_25 : decode cX4_nextMonth 25 = .ok (.iadd, 1) := by decide +kernel
theorem dX4_nextMonth_26 : decode cX4_nextMonth 26 = .ok (.putfield 40, 3) := by decide +kernel
theorem dX4_nextMonth_29 : decode cX4_nextMonth 29 = .ok (.aload_n 0, 1) := by decide +kernel
theorem dX4_nextMonth_30 : decode cX4_nextMonth 30 = .ok (.invokevirtual 169, 3) := by decide +kernel
theorem dX4_nextMonth_33 : decode cX4_nextMonth 33 = .ok (.aload_n 0, 1) := by decide +kernel
theorem dX4_nextMonth_34 : decode cX4_nextMonth 34 = .ok (.getfield 40, 3) := by decide +kernel
theorem dX4_nextMonth_37 : decode cX4_nextMonth 37 = .ok (.ireturn, 1) := by decide +kernel
theorem dX4_month_0 : decode cX4_month 0 = .ok (.aload_n 0, 1) := by decide +kernel
theorem dX4_month_1 : decode cX4_month 1 = .ok (.getfield 40, 3) := by decide +kernel
theorem dX4_month_4 : decode cX4_month 4 = .ok (.ireturn, 1) := by decide +kernel
set_option maxRecDepth 20000 in
theorem ggX4_owed_X4_pairAt : GoodIn wsX4_owed wsX4_pairAt := goodIn_ca (goodIn_ca (goodIn_r _ [6, 7, 8, 9, 10, 11, 12, 13, 5, 14, 50, 51, 52, 53, 54, 55, 56] (by decide +kernel) (by decide +kernel)) (goodIn_sub (fun _ h => List.mem_cons_of_mem _ (List.mem_append_left _ (List.mem_append_right _ h))) (by decide +kernel))) (goodIn_sub (fun _ h => List.mem_cons_of_mem _ (List.mem_append_right _ h)) (by decide +kernel))
set_option maxRecDepth 20000 in
theorem gX4_owed_X4_pairAt : GoodIn wsX4_owed (wsV RX4 69 RX4 yX4_pairAt wsX4_pairAt) := goodIn_app (goodIn_of _ (by decide +kernel)) ggX4_owed_X4_pairAt
set_option maxRecDepth 20000 in
theorem ggX4_owed_X4_refuseOutside : GoodIn wsX4_owed wsX4_refuseOutside := goodIn_ca (goodIn_r _ [17, 9, 10] (by decide +kernel) (by decide +kernel)) (goodIn_sub (fun _ h => List.mem_cons_of_mem _ (List.mem_append_right _ h)) (by decide +kernel))
set_option maxRecDepth 20000 in
theorem gX4_owed_X4_refuseOutside : GoodIn wsX4_owed (va_wsS RX4 51 yX4_refuseOutside wsX4_refuseOutside) := goodIn_app (goodIn_of _ (by decide +kernel)) ggX4_owed_X4_refuseOutside
set_option maxRecDepth 20000 in
theorem ggX4_owed_X4_amountOfMonths : GoodIn wsX4_owed wsX4_amountOfMonths := goodIn_r _ [21, 22, 23, 24, 25, 26, 27, 28, 29, 30, 31, 32, 33, 34, 35, 36, 37, 38, 39, 40, 5, 41, 42, 43, 44, 45, 46, 47, 48, 49, 50, 51, 52, 53, 54, 55, 56, 57, 58, 59, 60, 61, 62, 63, 64, 65, 66, 67, 68, 69, 70, 71, 72, 73, 74, 75] (by decide +kernel) (by decide +kernel)
set_option maxRecDepth 20000 in
theorem gX4_owed_X4_amountOfMonths : GoodIn wsX4_owed (wsV RX4 172 RX4 yX4_amountOfMonths wsX4_amountOfMonths) := goodIn_app (goodIn_of _ (by decide +kernel)) ggX4_owed_X4_amountOfMonths
theorem dX4_owed_0 : decode cX4_owed 0 = .ok (.aload_n 0, 1) := by decide +kernel
theorem dX4_owed_1 : decode cX4_owed 1 = .ok (.iload_n 1, 1) := by decide +kernel
theorem dX4_owed_2 : decode cX4_owed 2 = .ok (.iload_n 2, 1) := by decide +kernel
theorem dX4_owed_3 : decode cX4_owed 3 = .ok (.invokevirtual 69, 3) := by decide +kernel
theorem dX4_owed_6 : decode cX4_owed 6 = .ok (.astore 4, 2) := by decide +kernel
theorem dX4_owed_8 : decode cX4_owed 8 = .ok (.iload_n 3, 1) := by decide +kernel
theorem dX4_owed_9 : decode cX4_owed 9 = .ok (.iconst 0, 1) := by decide +kernel
theorem dX4_owed_10 : decode cX4_owed 10 = .ok (.aload_n 0, 1) := by decide +kernel
theorem dX4_owed_11 : decode cX4_owed 11 = .ok (.getfield 40, 3) := by decide +kernel
theorem dX4_owed_14 : decode cX4_owed 14 = .ok (.invokestatic 51, 3) := by decide +kernel
theorem dX4_owed_17 : decode cX4_owed 17 = .ok (.aload_n 0, 1) := by decide +kernel
theorem dX4_owed_18 : decode cX4_owed 18 = .ok (.aload 4, 2) := by decide +kernel
theorem dX4_owed_20 : decode cX4_owed 20 = .ok (.iload_n 3, 1) := by decide +kernel
theorem dX4_owed_21 : decode cX4_owed 21 = .ok (.iload_n 3, 1) := by decide +kernel
theorem dX4_owed_22 : decode cX4_owed 22 = .ok (.invokevirtual 172, 3) := by decide +kernel
theorem dX4_owed_25 : decode cX4_owed 25 = .ok (.lreturn, 1) := by decide +kernel
set_option maxRecDepth 20000 in
theorem ggX4_shortfall_X4_pairAt : GoodIn wsX4_shortfall wsX4_pairAt := goodIn_ca (goodIn_ca (goodIn_r _ [13, 14, 15, 16, 17, 18, 19, 20, 12, 21, 58, 59, 60, 61, 62, 63, 64] (by decide +kernel) (by decide +kernel)) (goodIn_sub (fun _ h => List.mem_cons_of_mem _ (List.mem_append_left _ (List.mem_append_right _ h))) (by decide +kernel))) (goodIn_sub (fun _ h => List.mem_cons_of_mem _ (List.mem_append_right _ h)) (by decide +kernel))
set_option maxRecDepth 20000 in
theorem gX4_shortfall_X4_pairAt : GoodIn wsX4_shortfall (wsV RX4 69 RX4 yX4_pairAt wsX4_pairAt) := goodIn_app (goodIn_of _ (by decide +kernel)) ggX4_shortfall_X4_pairAt
set_option maxRecDepth 20000 in
theorem ggX4_shortfall_X4_refuseOutside : GoodIn wsX4_shortfall wsX4_refuseOutside := goodIn_ca (goodIn_r _ [24, 16, 17] (by decide +kernel) (by decide +kernel)) (goodIn_sub (fun _ h => List.mem_cons_of_mem _ (List.mem_append_right _ h)) (by decide +kernel))
set_option maxRecDepth 20000 in
theorem gX4_shortfall_X4_refuseOutside : GoodIn wsX4_shortfall (va_wsS RX4 51 yX4_refuseOutside wsX4_refuseOutside) := goodIn_app (goodIn_of _ (by decide +kernel)) ggX4_shortfall_X4_refuseOutside
set_option maxRecDepth 20000 in
theorem ggX4_shortfall_X4_yearOf : GoodIn wsX4_shortfall wsX4_yearOf := goodIn_r _ [27] (by decide +kernel) (by decide +kernel)
set_option maxRecDepth 20000 in
theorem gX4_shortfall_X4_yearOf : GoodIn wsX4_shortfall (va_wsS RX4 176 yX4_yearOf wsX4_yearOf) := goodIn_app (goodIn_of _ (by decide +kernel)) ggX4_shortfall_X4_yearOf
set_option maxRecDepth 20000 in
theorem ggX4_shortfall_X4_amountOfMonths : GoodIn wsX4_shortfall wsX4_amountOfMonths := goodIn_r _ [31, 32, 33, 34, 35, 36, 37, 38, 39, 40, 41, 42, 43, 44, 45, 46, 47, 48, 49, 26, 12, 27, 50, 51, 52, 53, 54, 55, 56, 57, 58, 59, 60, 61, 62, 63, 64, 72, 73, 74, 75, 76, 77, 78, 79, 80, 81, 82, 83, 65, 66, 67, 68, 69, 70, 71] (by decide +kernel) (by decide +kernel)
set_option maxRecDepth 20000 in
theorem gX4_shortfall_X4_amountOfMonths : GoodIn wsX4_shortfall (wsV RX4 172 RX4 yX4_amountOfMonths wsX4_amountOfMonths) := goodIn_app (goodIn_of _ (by decide +kernel)) ggX4_shortfall_X4_amountOfMonths
