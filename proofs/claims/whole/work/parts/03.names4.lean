theorem dX1_digest_66 : decode cX1_digest 66 = .ok (.bipush 7, 2) := by decide +kernel
theorem dX1_digest_68 : decode cX1_digest 68 = .ok (.if_icmp .gt 25, 3) := by decide +kernel
theorem dX1_digest_71 : decode cX1_digest 71 = .ok (.lload_n 1, 1) := by decide +kernel
theorem dX1_digest_72 : decode cX1_digest 72 = .ok (.ldc2_w 138, 3) := by decide +kernel
theorem dX1_digest_75 : decode cX1_digest 75 = .ok (.lmul, 1) := by decide +kernel
theorem dX1_digest_76 : decode cX1_digest 76 = .ok (.aload_n 0, 1) := by decide +kernel
theorem dX1_digest_77 : decode cX1_digest 77 = .ok (.aload 4, 2) := by decide +kernel
theorem dX1_digest_79 : decode cX1_digest 79 = .ok (.iload 5, 2) := by decide +kernel
theorem dX1_digest_81 : decode cX1_digest 81 = .ok (.invokevirtual 88, 3) := by decide +kernel
theorem dX1_digest_84 : decode cX1_digest 84 = .ok (.i2l, 1) := by decide +kernel
theorem dX1_digest_85 : decode cX1_digest 85 = .ok (.ladd, 1) := by decide +kernel
theorem dX1_digest_86 : decode cX1_digest 86 = .ok (.lstore_n 1, 1) := by decide +kernel
theorem dX1_digest_87 : decode cX1_digest 87 = .ok (.iinc 5 1, 3) := by decide +kernel
theorem dX1_digest_90 : decode cX1_digest 90 = .ok (.goto (-26), 3) := by decide +kernel
theorem dX1_digest_93 : decode cX1_digest 93 = .ok (.iinc 3 1, 3) := by decide +kernel
theorem dX1_digest_96 : decode cX1_digest 96 = .ok (.goto (-63), 3) := by decide +kernel
theorem dX1_digest_99 : decode cX1_digest 99 = .ok (.lload_n 1, 1) := by decide +kernel
theorem dX1_digest_100 : decode cX1_digest 100 = .ok (.lreturn, 1) := by decide +kernel
theorem dX1_refuseOddHeight_0 : decode cX1_refuseOddHeight 0 = .ok (.iload_n 0, 1) := by decide +kernel
theorem dX1_refuseOddHeight_1 : decode cX1_refuseOddHeight 1 = .ok (.ifCond .lt 10, 3) := by decide +kernel
theorem dX1_refuseOddHeight_4 : decode cX1_refuseOddHeight 4 = .ok (.iload_n 0, 1) := by decide +kernel
theorem dX1_refuseOddHeight_5 : decode cX1_refuseOddHeight 5 = .ok (.sipush 999, 3) := by decide +kernel
theorem dX1_refuseOddHeight_8 : decode cX1_refuseOddHeight 8 = .ok (.if_icmp .le 13, 3) := by decide +kernel
theorem dX1_refuseOddHeight_11 : decode cX1_refuseOddHeight 11 = .ok (.new 140, 3) := by decide +kernel
theorem dX1_refuseOddHeight_14 : decode cX1_refuseOddHeight 14 = .ok (.dup, 1) := by decide +kernel
theorem dX1_refuseOddHeight_15 : decode cX1_refuseOddHeight 15 = .ok (.ldc 142, 2) := by decide +kernel
theorem dX1_refuseOddHeight_17 : decode cX1_refuseOddHeight 17 = .ok (.invokespecial 144, 3) := by decide +kernel
theorem dX1_refuseOddHeight_20 : decode cX1_refuseOddHeight 20 = .ok (.athrow, 1) := by decide +kernel
theorem dX1_refuseOddHeight_21 : decode cX1_refuseOddHeight 21 = .ok (.return_, 1) := by decide +kernel
theorem dX1_refuseOddQuestion_0 : decode cX1_refuseOddQuestion 0 = .ok (.iload_n 0, 1) := by decide +kernel
theorem dX1_refuseOddQuestion_1 : decode cX1_refuseOddQuestion 1 = .ok (.ifCond .lt 9, 3) := by decide +kernel
theorem dX1_refuseOddQuestion_4 : decode cX1_refuseOddQuestion 4 = .ok (.iload_n 0, 1) := by decide +kernel
theorem dX1_refuseOddQuestion_5 : decode cX1_refuseOddQuestion 5 = .ok (.bipush 7, 2) := by decide +kernel
theorem dX1_refuseOddQuestion_7 : decode cX1_refuseOddQuestion 7 = .ok (.if_icmp .le 13, 3) := by decide +kernel
theorem dX1_refuseOddQuestion_10 : decode cX1_refuseOddQuestion 10 = .ok (.new 95, 3) := by decide +kernel
theorem dX1_refuseOddQuestion_13 : decode cX1_refuseOddQuestion 13 = .ok (.dup, 1) := by decide +kernel
theorem dX1_refuseOddQuestion_14 : decode cX1_refuseOddQuestion 14 = .ok (.ldc 145, 2) := by decide +kernel
theorem dX1_refuseOddQuestion_16 : decode cX1_refuseOddQuestion 16 = .ok (.invokespecial 99, 3) := by decide +kernel
theorem dX1_refuseOddQuestion_19 : decode cX1_refuseOddQuestion 19 = .ok (.athrow, 1) := by decide +kernel
theorem dX1_refuseOddQuestion_20 : decode cX1_refuseOddQuestion 20 = .ok (.return_, 1) := by decide +kernel
theorem dX1_heightOf_0 : decode cX1_heightOf 0 = .ok (.aload_n 0, 1) := by decide +kernel
theorem dX1_heightOf_1 : decode cX1_heightOf 1 = .ok (.ifnonnull 7, 3) := by decide +kernel
theorem dX1_heightOf_4 : decode cX1_heightOf 4 = .ok (.iconst (-1), 1) := by decide +kernel
theorem dX1_heightOf_5 : decode cX1_heightOf 5 = .ok (.goto 7, 3) := by decide +kernel
theorem dX1_heightOf_8 : decode cX1_heightOf 8 = .ok (.aload_n 0, 1) := by decide +kernel
theorem dX1_heightOf_9 : decode cX1_heightOf 9 = .ok (.getfield 100, 3) := by decide +kernel
theorem dX1_heightOf_12 : decode cX1_heightOf 12 = .ok (.ireturn, 1) := by decide +kernel
theorem dX1_companyOf_0 : decode cX1_companyOf 0 = .ok (.aload_n 0, 1) := by decide +kernel
theorem dX1_companyOf_1 : decode cX1_companyOf 1 = .ok (.ifnonnull 7, 3) := by decide +kernel
theorem dX1_companyOf_4 : decode cX1_companyOf 4 = .ok (.iconst 0, 1) := by decide +kernel
theorem dX1_companyOf_5 : decode cX1_companyOf 5 = .ok (.goto 7, 3) := by decide +kernel
theorem dX1_companyOf_8 : decode cX1_companyOf 8 = .ok (.aload_n 0, 1) := by decide +kernel
theorem dX1_companyOf_9 : decode cX1_companyOf 9 = .ok (.getfield 147, 3) := by decide +kernel
theorem dX1_companyOf_12 : decode cX1_companyOf 12 = .ok (.ireturn, 1) := by decide +kernel
set_option maxRecDepth 20000 in
theorem ggX1_depthOf_X0_depth : GoodIn wsX1_depthOf wsX0_depth := goodIn_r _ [5, 6, 7, 8, 9, 10, 11] (by decide +kernel) (by decide +kernel)
set_option maxRecDepth 20000 in
theorem gX1_depthOf_X0_depth : GoodIn wsX1_depthOf (wsV RX1 54 RX0 yX0_depth wsX0_depth) := goodIn_app (goodIn_of _ (by decide +kernel)) ggX1_depthOf_X0_depth
theorem dX1_depthOf_0 : decode cX1_depthOf 0 = .ok (.aload_n 0, 1) := by decide +kernel
theorem dX1_depthOf_1 : decode cX1_depthOf 1 = .ok (.ifnonnull 7, 3) := by decide +kernel
theorem dX1_depthOf_4 : decode cX1_depthOf 4 = .ok (.iconst (-1), 1) := by decide +kernel
theorem dX1_depthOf_5 : decode cX1_depthOf 5 = .ok (.goto 7, 3) := by decide +kernel
theorem dX1_depthOf_8 : decode cX1_depthOf 8 = .ok (.aload_n 0, 1) := by decide +kernel
theorem dX1_depthOf_9 : decode cX1_depthOf 9 = .ok (.invokevirtual 54, 3) := by decide +kernel
theorem dX1_depthOf_12 : decode cX1_depthOf 12 = .ok (.ireturn, 1) := by decide +kernel
set_option maxRecDepth 20000 in
theorem ggX1_newDepth_X1_depthOf : GoodIn wsX1_newDepth wsX1_depthOf := goodIn_r _ [4, 5, 6, 7, 8, 9, 10, 11, 12, 13, 14, 15] (by decide +kernel) (by decide +kernel)
set_option maxRecDepth 20000 in
theorem gX1_newDepth_X1_depthOf : GoodIn wsX1_newDepth (va_wsS RX1 133 yX1_depthOf wsX1_depthOf) := goodIn_app (goodIn_of _ (by decide +kernel)) ggX1_newDepth_X1_depthOf
theorem dX1_newDepth_0 : decode cX1_newDepth 0 = .ok (.aload_n 0, 1) := by decide +kernel
theorem dX1_newDepth_1 : decode cX1_newDepth 1 = .ok (.invokestatic 133, 3) := by decide +kernel
theorem dX1_newDepth_4 : decode cX1_newDepth 4 = .ok (.iconst 1, 1) := by decide +kernel
theorem dX1_newDepth_5 : decode cX1_newDepth 5 = .ok (.iadd, 1) := by decide +kernel
theorem dX1_newDepth_6 : decode cX1_newDepth 6 = .ok (.ireturn, 1) := by decide +kernel
set_option maxRecDepth 20000 in
theorem ggX1_find_X0_towards : GoodIn wsX1_find wsX0_towards := goodIn_r _ [7, 8, 9, 10, 17, 18, 19, 20, 21] (by decide +kernel) (by decide +kernel)
set_option maxRecDepth 20000 in
theorem gX1_find_X0_towards : GoodIn wsX1_find (wsV RX1 117 RX0 yX0_towards wsX0_towards) := goodIn_app (goodIn_of _ (by decide +kernel)) ggX1_find_X0_towards
theorem dX1_find_0 : decode cX1_find 0 = .ok (.aload_n 0, 1) := by decide +kernel
theorem dX1_find_1 : decode cX1_find 1 = .ok (.getfield 77, 3) := by decide +kernel
theorem dX1_find_4 : decode cX1_find 4 = .ok (.astore_n 2, 1) := by decide +kernel
theorem dX1_find_5 : decode cX1_find 5 = .ok (.aload_n 2, 1) := by decide +kernel
theorem dX1_find_6 : decode cX1_find 6 = .ok (.ifnull 20, 3) := by decide +kernel
theorem dX1_find_9 : decode cX1_find 9 = .ok (.aload_n 2, 1) := by decide +kernel
theorem dX1_find_10 : decode cX1_find 10 = .ok (.getfield 100, 3) := by decide +kernel
theorem dX1_find_13 : decode cX1_find 13 = .ok (.iload_n 1, 1) := by decide +kernel
theorem dX1_find_14 : decode cX1_find 14 = .ok (.if_icmp .eq 12, 3) := by decide +kernel
theorem dX1_find_17 : decode cX1_find 17 = .ok (.aload_n 2, 1) := by decide +kernel
theorem dX1_find_18 : decode cX1_find 18 = .ok (.iload_n 1, 1) := by decide +kernel
theorem dX1_find_19 : decode cX1_find 19 = .ok (.invokevirtual 117, 3) := by decide +kernel
theorem dX1_find_22 : decode cX1_find 22 = .ok (.astore_n 2, 1) := by decide +kernel
theorem dX1_find_23 : decode cX1_find 23 = .ok (.goto (-18), 3) := by decide +kernel
theorem dX1_find_26 : decode cX1_find 26 = .ok (.aload_n 2, 1) := by decide +kernel
theorem dX1_find_27 : decode cX1_find 27 = .ok (.areturn, 1) := by decide +kernel
set_option maxRecDepth 20000 in
theorem ggX1_lastOnTheWayTo_X0_towards : GoodIn wsX1_lastOnTheWayTo wsX0_towards := goodIn_r _ [6, 7, 8, 9, 16, 17, 18, 19, 20] (by decide +kernel) (by decide +kernel)
set_option maxRecDepth 20000 in
theorem gX1_lastOnTheWayTo_X0_towards : GoodIn wsX1_lastOnTheWayTo (wsV RX1 117 RX0 yX0_towards wsX0_towards) := goodIn_app (goodIn_of _ (by decide +kernel)) ggX1_lastOnTheWayTo_X0_towards
theorem dX1_lastOnTheWayTo_0 : decode cX1_lastOnTheWayTo 0 = .ok (.aconst_null, 1) := by decide +kernel
theorem dX1_lastOnTheWayTo_1 : decode cX1_lastOnTheWayTo 1 = .ok (.astore_n 2, 1) := by decide +kernel
theorem dX1_lastOnTheWayTo_2 : decode cX1_lastOnTheWayTo 2 = .ok (.aload_n 0, 1) := by decide +kernel
theorem dX1_lastOnTheWayTo_3 : decode cX1_lastOnTheWayTo 3 = .ok (.getfield 77, 3) := by decide +kernel
theorem dX1_lastOnTheWayTo_6 : decode cX1_lastOnTheWayTo 6 = .ok (.astore_n 3, 1) := by decide +kernel
theorem dX1_lastOnTheWayTo_7 : decode cX1_lastOnTheWayTo 7 = .ok (.aload_n 3, 1) := by decide +kernel
theorem dX1_lastOnTheWayTo_8 : decode cX1_lastOnTheWayTo 8 = .ok (.ifnull 14, 3) := by decide +kernel
theorem dX1_lastOnTheWayTo_11 : decode cX1_lastOnTheWayTo 11 = .ok (.aload_n 3, 1) := by decide +kernel
theorem dX1_lastOnTheWayTo_12 : decode cX1_lastOnTheWayTo 12 = .ok (.astore_n 2, 1) := by decide +kernel
theorem dX1_lastOnTheWayTo_13 : decode cX1_lastOnTheWayTo 13 = .ok (.aload_n 3, 1) := by decide +kernel
theorem dX1_lastOnTheWayTo_14 : decode cX1_lastOnTheWayTo 14 = .ok (.iload_n 1, 1) := by decide +kernel
theorem dX1_lastOnTheWayTo_15 : decode cX1_lastOnTheWayTo 15 = .ok (.invokevirtual 117, 3) := by decide +kernel
theorem dX1_lastOnTheWayTo_18 : decode cX1_lastOnTheWayTo 18 = .ok (.astore_n 3, 1) := by decide +kernel
theorem dX1_lastOnTheWayTo_19 : decode cX1_lastOnTheWayTo 19 = .ok (.goto (-12), 3) := by decide +kernel
theorem dX1_lastOnTheWayTo_22 : decode cX1_lastOnTheWayTo 22 = .ok (.aload_n 2, 1) := by decide +kernel
theorem dX1_lastOnTheWayTo_23 : decode cX1_lastOnTheWayTo 23 = .ok (.areturn, 1) := by decide +kernel
set_option maxRecDepth 20000 in
theorem ggX1_smallerThan_X1_companyOf : GoodIn wsX1_smallerThan wsX1_companyOf := goodIn_r _ [7, 8, 23, 24, 25, 26, 27] (by decide +kernel) (by decide +kernel)
set_option maxRecDepth 20000 in
theorem gX1_smallerThan_X1_companyOf : GoodIn wsX1_smallerThan (va_wsS RX1 153 yX1_companyOf wsX1_companyOf) := goodIn_app (goodIn_of _ (by decide +kernel)) ggX1_smallerThan_X1_companyOf
set_option maxRecDepth 20000 in
theorem ggX1_smallerThan_X0_towards : GoodIn wsX1_smallerThan wsX0_towards := goodIn_r _ [13, 14, 15, 16, 23, 24, 25, 26, 27] (by decide +kernel) (by decide +kernel)
set_option maxRecDepth 20000 in
theorem gX1_smallerThan_X0_towards : GoodIn wsX1_smallerThan (wsV RX1 117 RX0 yX0_towards wsX0_towards) := goodIn_app (goodIn_of _ (by decide +kernel)) ggX1_smallerThan_X0_towards
theorem dX1_smallerThan_0 : decode cX1_smallerThan 0 = .ok (.iconst 0, 1) := by decide +kernel
theorem dX1_smallerThan_1 : decode cX1_smallerThan 1 = .ok (.istore_n 2, 1) := by decide +kernel
theorem dX1_smallerThan_2 : decode cX1_smallerThan 2 = .ok (.aload_n 0, 1) := by decide +kernel
theorem dX1_smallerThan_3 : decode cX1_smallerThan 3 = .ok (.getfield 77, 3) := by decide +kernel
theorem dX1_smallerThan_6 : decode cX1_smallerThan 6 = .ok (.astore_n 3, 1) := by decide +kernel
theorem dX1_smallerThan_7 : decode cX1_smallerThan 7 = .ok (.aload_n 3, 1) := by decide +kernel
theorem dX1_smallerThan_8 : decode cX1_smallerThan 8 = .ok (.ifnull 50, 3) := by decide +kernel
theorem dX1_smallerThan_11 : decode cX1_smallerThan 11 = .ok (.aload_n 3, 1) := by decide +kernel
theorem dX1_smallerThan_12 : decode cX1_smallerThan 12 = .ok (.getfield 100, 3) := by decide +kernel
theorem dX1_smallerThan_15 : decode cX1_smallerThan 15 = .ok (.iload_n 1, 1) := by decide +kernel
theorem dX1_smallerThan_16 : decode cX1_smallerThan 16 = .ok (.if_icmp .ne 13, 3) := by decide +kernel
theorem dX1_smallerThan_19 : decode cX1_smallerThan 19 = .ok (.iload_n 2, 1) := by decide +kernel
theorem dX1_smallerThan_20 : decode cX1_smallerThan 20 = .ok (.aload_n 3, 1) := by decide +kernel
theorem dX1_smallerThan_21 : decode cX1_smallerThan 21 = .ok (.getfield 150, 3) := by decide +kernel
theorem dX1_smallerThan_24 : decode cX1_smallerThan 24 = .ok (.invokestatic 153, 3) := by decide +kernel
theorem dX1_smallerThan_27 : decode cX1_smallerThan 27 = .ok (.iadd, 1) := by decide +kernel
theorem dX1_smallerThan_28 : decode cX1_smallerThan 28 = .ok (.ireturn, 1) := by decide +kernel
theorem dX1_smallerThan_29 : decode cX1_smallerThan 29 = .ok (.aload_n 3, 1) := by decide +kernel
theorem dX1_smallerThan_30 : decode cX1_smallerThan 30 = .ok (.getfield 100, 3) := by decide +kernel
theorem dX1_smallerThan_33 : decode cX1_smallerThan 33 = .ok (.iload_n 1, 1) := by decide +kernel
theorem dX1_smallerThan_34 : decode cX1_smallerThan 34 = .ok (.if_icmp .ge 15, 3) := by decide +kernel
theorem dX1_smallerThan_37 : decode cX1_smallerThan 37 = .ok (.iload_n 2, 1) := by decide +kernel
theorem dX1_smallerThan_38 : decode cX1_smallerThan 38 = .ok (.aload_n 3, 1) := by decide +kernel
theorem dX1_smallerThan_39 : decode cX1_smallerThan 39 = .ok (.getfield 150, 3) := by decide +kernel
theorem dX1_smallerThan_42 : decode cX1_smallerThan 42 = .ok (.invokestatic 153, 3) := by decide +kernel
theorem dX1_smallerThan_45 : decode cX1_smallerThan 45 = .ok (.iconst 1, 1) := by decide +kernel
theorem dX1_smallerThan_46 : decode cX1_smallerThan 46 = .ok (.iadd, 1) := by decide +kernel
theorem dX1_smallerThan_47 : decode cX1_smallerThan 47 = .ok (.iadd, 1) := by decide +kernel
theorem dX1_smallerThan_48 : decode cX1_smallerThan 48 = .ok (.istore_n 2, 1) := by decide +kernel
theorem dX1_smallerThan_49 : decode cX1_smallerThan 49 = .ok (.aload_n 3, 1) := by decide +kernel
theorem dX1_smallerThan_50 : decode cX1_smallerThan 50 = .ok (.iload_n 1, 1) := by decide +kernel
theorem dX1_smallerThan_51 : decode cX1_smallerThan 51 = .ok (.invokevirtual 117, 3) := by decide +kernel
theorem dX1_smallerThan_54 : decode cX1_smallerThan 54 = .ok (.astore_n 3, 1) := by decide +kernel
theorem dX1_smallerThan_55 : decode cX1_smallerThan 55 = .ok (.goto (-48), 3) := by decide +kernel
theorem dX1_smallerThan_58 : decode cX1_smallerThan 58 = .ok (.iload_n 2, 1) := by decide +kernel
theorem dX1_smallerThan_59 : decode cX1_smallerThan 59 = .ok (.ireturn, 1) := by decide +kernel
theorem dX1_inLine_0 : decode cX1_inLine 0 = .ok (.iload_n 1, 1) := by decide +kernel
theorem dX1_inLine_1 : decode cX1_inLine 1 = .ok (.ifCond .lt 29, 3) := by decide +kernel
theorem dX1_inLine_4 : decode cX1_inLine 4 = .ok (.iload_n 1, 1) := by decide +kernel
theorem dX1_inLine_5 : decode cX1_inLine 5 = .ok (.aload_n 0, 1) := by decide +kernel
theorem dX1_inLine_6 : decode cX1_inLine 6 = .ok (.getfield 19, 3) := by decide +kernel
theorem dX1_inLine_9 : decode cX1_inLine 9 = .ok (.if_icmp .ge 21, 3) := by decide +kernel
theorem dX1_inLine_12 : decode cX1_inLine 12 = .ok (.iload_n 1, 1) := by decide +kernel
theorem dX1_inLine_13 : decode cX1_inLine 13 = .ok (.aload_n 0, 1) := by decide +kernel
theorem dX1_inLine_14 : decode cX1_inLine 14 = .ok (.getfield 11, 3) := by decide +kernel
theorem dX1_inLine_17 : decode cX1_inLine 17 = .ok (.arraylength, 1) := by decide +kernel
theorem dX1_inLine_18 : decode cX1_inLine 18 = .ok (.if_icmp .ge 12, 3) := by decide +kernel
theorem dX1_inLine_21 : decode cX1_inLine 21 = .ok (.aload_n 0, 1) := by decide +kernel
theorem dX1_inLine_22 : decode cX1_inLine 22 = .ok (.getfield 11, 3) := by decide +kernel
theorem dX1_inLine_25 : decode cX1_inLine 25 = .ok (.iload_n 1, 1) := by decide +kernel
theorem dX1_inLine_26 : decode cX1_inLine 26 = .ok (.aaload, 1) := by decide +kernel
theorem dX1_inLine_27 : decode cX1_inLine 27 = .ok (.goto 4, 3) := by decide +kernel
theorem dX1_inLine_30 : decode cX1_inLine 30 = .ok (.aconst_null, 1) := by decide +kernel
theorem dX1_inLine_31 : decode cX1_inLine 31 = .ok (.areturn, 1) := by decide +kernel
set_option maxRecDepth 20000 in
theorem ggX1_insertIntoLine_X1_heightOf : GoodIn wsX1_insertIntoLine wsX1_heightOf := goodIn_r _ [7, 3, 14, 15, 16, 17, 18] (by decide +kernel) (by decide +kernel)
set_option maxRecDepth 20000 in
theorem gX1_insertIntoLine_X1_heightOf : GoodIn wsX1_insertIntoLine (va_wsS RX1 81 yX1_heightOf wsX1_heightOf) := goodIn_app (goodIn_of _ (by decide +kernel)) ggX1_insertIntoLine_X1_heightOf
theorem dX1_insertIntoLine_0 : decode cX1_insertIntoLine 0 = .ok (.aload_n 0, 1) := by decide +kernel
theorem dX1_insertIntoLine_1 : decode cX1_insertIntoLine 1 = .ok (.getfield 19, 3) := by decide +kernel
theorem dX1_insertIntoLine_4 : decode cX1_insertIntoLine 4 = .ok (.istore_n 2, 1) := by decide +kernel
theorem dX1_insertIntoLine_5 : decode cX1_insertIntoLine 5 = .ok (.iload_n 2, 1) := by decide +kernel
theorem dX1_insertIntoLine_6 : decode cX1_insertIntoLine 6 = .ok (.ifCond .lt 12, 3) := by decide +kernel
theorem dX1_insertIntoLine_9 : decode cX1_insertIntoLine 9 = .ok (.iload_n 2, 1) := by decide +kernel
theorem dX1_insertIntoLine_10 : decode cX1_insertIntoLine 10 = .ok (.aload_n 0, 1) := by decide +kernel
theorem dX1_insertIntoLine_11 : decode cX1_insertIntoLine 11 = .ok (.getfield 11, 3) := by decide +kernel
theorem dX1_insertIntoLine_14 : decode cX1_insertIntoLine 14 = .ok (.arraylength, 1) := by decide +kernel
theorem dX1_insertIntoLine_15 : decode cX1_insertIntoLine 15 = .ok (.if_icmp .lt 4, 3) := by decide +kernel
theorem dX1_insertIntoLine_18 : decode cX1_insertIntoLine 18 = .ok (.return_, 1) := by decide +kernel
theorem dX1_insertIntoLine_19 : decode cX1_insertIntoLine 19 = .ok (.iload_n 2, 1) := by decide +kernel
theorem dX1_insertIntoLine_20 : decode cX1_insertIntoLine 20 = .ok (.ifCond .le 41, 3) := by decide +kernel
theorem dX1_insertIntoLine_23 : decode cX1_insertIntoLine 23 = .ok (.aload_n 0, 1) := by decide +kernel
theorem dX1_insertIntoLine_24 : decode cX1_insertIntoLine 24 = .ok (.getfield 11, 3) := by decide +kernel
theorem dX1_insertIntoLine_27 : decode cX1_insertIntoLine 27 = .ok (.iload_n 2, 1) := by decide +kernel
theorem dX1_insertIntoLine_28 : decode cX1_insertIntoLine 28 = .ok (.iconst 1, 1) := by decide +kernel
theorem dX1_insertIntoLine_29 : decode cX1_insertIntoLine 29 = .ok (.isub, 1) := by decide +kernel
theorem dX1_insertIntoLine_30 : decode cX1_insertIntoLine 30 = .ok (.aaload, 1) := by decide +kernel
theorem dX1_insertIntoLine_31 : decode cX1_insertIntoLine 31 = .ok (.invokestatic 81, 3) := by decide +kernel
theorem dX1_insertIntoLine_34 : decode cX1_insertIntoLine 34 = .ok (.aload_n 1, 1) := by decide +kernel
theorem dX1_insertIntoLine_35 : decode cX1_insertIntoLine 35 = .ok (.getfield 100, 3) := by decide +kernel
theorem dX1_insertIntoLine_38 : decode cX1_insertIntoLine 38 = .ok (.if_icmp .le 23, 3) := by decide +kernel
theorem dX1_insertIntoLine_41 : decode cX1_insertIntoLine 41 = .ok (.aload_n 0, 1) := by decide +kernel
theorem dX1_insertIntoLine_42 : decode cX1_insertIntoLine 42 = .ok (.getfield 11, 3) := by decide +kernel
theorem dX1_insertIntoLine_45 : decode cX1_insertIntoLine 45 = .ok (.iload_n 2, 1) := by decide +kernel
theorem dX1_insertIntoLine_46 : decode cX1_insertIntoLine 46 = .ok (.aload_n 0, 1) := by decide +kernel
theorem dX1_insertIntoLine_47 : decode cX1_insertIntoLine 47 = .ok (.getfield 11, 3) := by decide +kernel
theorem dX1_insertIntoLine_50 : decode cX1_insertIntoLine 50 = .ok (.iload_n 2, 1) := by decide +kernel
theorem dX1_insertIntoLine_51 : decode cX1_insertIntoLine 51 = .ok (.iconst 1, 1) := by decide +kernel
theorem dX1_insertIntoLine_52 : decode cX1_insertIntoLine 52 = .ok (.isub, 1) := by decide +kernel
theorem dX1_insertIntoLine_53 : decode cX1_insertIntoLine 53 = .ok (.aaload, 1) := by decide +kernel
theorem dX1_insertIntoLine_54 : decode cX1_insertIntoLine 54 = .ok (.aastore, 1) := by decide +kernel
theorem dX1_insertIntoLine_55 : decode cX1_insertIntoLine 55 = .ok (.iinc 2 (-1), 3) := by decide +kernel
theorem dX1_insertIntoLine_58 : decode cX1_insertIntoLine 58 = .ok (.goto (-39), 3) := by decide +kernel
theorem dX1_insertIntoLine_61 : decode cX1_insertIntoLine 61 = .ok (.aload_n 0, 1) := by decide +kernel
theorem dX1_insertIntoLine_62 : decode cX1_insertIntoLine 62 = .ok (.getfield 11, 3) := by decide +kernel
theorem dX1_insertIntoLine_65 : decode cX1_insertIntoLine 65 = .ok (.iload_n 2, 1) := by decide +kernel
theorem dX1_insertIntoLine_66 : decode cX1_insertIntoLine 66 = .ok (.aload_n 1, 1) := by decide +kernel
theorem dX1_insertIntoLine_67 : decode cX1_insertIntoLine 67 = .ok (.aastore, 1) := by decide +kernel
theorem dX1_insertIntoLine_68 : decode cX1_insertIntoLine 68 = .ok (.aload_n 0, 1) := by decide +kernel
theorem dX1_insertIntoLine_69 : decode cX1_insertIntoLine 69 = .ok (.dup, 1) := by decide +kernel
theorem dX1_insertIntoLine_70 : decode cX1_insertIntoLine 70 = .ok (.getfield 19, 3) := by decide +kernel
theorem dX1_insertIntoLine_73 : decode cX1_insertIntoLine 73 = .ok (.iconst 1, 1) := by decide +kernel
theorem dX1_insertIntoLine_74 : decode cX1_insertIntoLine 74 = .ok (.iadd, 1) := by decide +kernel
theorem dX1_insertIntoLine_75 : decode cX1_insertIntoLine 75 = .ok (.putfield 19, 3) := by decide +kernel
theorem dX1_insertIntoLine_78 : decode cX1_insertIntoLine 78 = .ok (.return_, 1) := by decide +kernel
set_option maxRecDepth 20000 in
theorem ggX1_removeFromLine_X1_smallerThan : GoodIn wsX1_removeFromLine wsX1_smallerThan := goodIn_r _ [8, 9, 1, 10, 11, 12, 7, 13, 14, 15, 16, 17, 18, 19, 20, 21, 22, 28, 29, 30, 31, 32, 33, 23, 24, 25, 26, 27] (by decide +kernel) (by decide +kernel)
set_option maxRecDepth 20000 in
theorem gX1_removeFromLine_X1_smallerThan : GoodIn wsX1_removeFromLine (wsV RX1 103 RX1 yX1_smallerThan wsX1_smallerThan) := goodIn_app (goodIn_of _ (by decide +kernel)) ggX1_removeFromLine_X1_smallerThan
theorem dX1_removeFromLine_0 : decode cX1_removeFromLine 0 = .ok (.aload_n 0, 1) := by decide +kernel
theorem dX1_removeFromLine_1 : decode cX1_removeFromLine 1 = .ok (.aload_n 1, 1) := by decide +kernel
theorem dX1_removeFromLine_2 : decode cX1_removeFromLine 2 = .ok (.getfield 100, 3) := by decide +kernel
theorem dX1_removeFromLine_5 : decode cX1_removeFromLine 5 = .ok (.invokevirtual 103, 3) := by decide +kernel
theorem dX1_removeFromLine_8 : decode cX1_removeFromLine 8 = .ok (.istore_n 2, 1) := by decide +kernel
theorem dX1_removeFromLine_9 : decode cX1_removeFromLine 9 = .ok (.iload_n 2, 1) := by decide +kernel
theorem dX1_removeFromLine_10 : decode cX1_removeFromLine 10 = .ok (.ifCond .lt 23, 3) := by decide +kernel
theorem dX1_removeFromLine_13 : decode cX1_removeFromLine 13 = .ok (.iload_n 2, 1) := by decide +kernel
theorem dX1_removeFromLine_14 : decode cX1_removeFromLine 14 = .ok (.aload_n 0, 1) := by decide +kernel
theorem dX1_removeFromLine_15 : decode cX1_removeFromLine 15 = .ok (.getfield 19, 3) := by decide +kernel
theorem dX1_removeFromLine_18 : decode cX1_removeFromLine 18 = .ok (.if_icmp .ge 15, 3) := by decide +kernel
theorem dX1_removeFromLine_21 : decode cX1_removeFromLine 21 = .ok (.aload_n 0, 1) := by decide +kernel
theorem dX1_removeFromLine_22 : decode cX1_removeFromLine 22 = .ok (.getfield 19, 3) := by decide +kernel
theorem dX1_removeFromLine_25 : decode cX1_removeFromLine 25 = .ok (.aload_n 0, 1) := by decide +kernel
theorem dX1_removeFromLine_26 : decode cX1_removeFromLine 26 = .ok (.getfield 11, 3) := by decide +kernel
theorem dX1_removeFromLine_29 : decode cX1_removeFromLine 29 = .ok (.arraylength, 1) := by decide +kernel
theorem dX1_removeFromLine_30 : decode cX1_removeFromLine 30 = .ok (.if_icmp .le 4, 3) := by decide +kernel
theorem dX1_removeFromLine_33 : decode cX1_removeFromLine 33 = .ok (.return_, 1) := by decide +kernel
theorem dX1_removeFromLine_34 : decode cX1_removeFromLine 34 = .ok (.aload_n 0, 1) := by decide +kernel
theorem dX1_removeFromLine_35 : decode cX1_removeFromLine 35 = .ok (.dup, 1) := by decide +kernel
theorem dX1_removeFromLine_36 : decode cX1_removeFromLine 36 = .ok (.getfield 19, 3) := by decide +kernel
theorem dX1_removeFromLine_39 : decode cX1_removeFromLine 39 = .ok (.iconst 1, 1) := by decide +kernel
theorem dX1_removeFromLine_40 : decode cX1_removeFromLine 40 = .ok (.isub, 1) := by decide +kernel
theorem dX1_removeFromLine_41 : decode cX1_removeFromLine 41 = .ok (.putfield 19, 3) := by decide +kernel
theorem dX1_removeFromLine_44 : decode cX1_removeFromLine 44 = .ok (.iload_n 2, 1) := by decide +kernel
theorem dX1_removeFromLine_45 : decode cX1_removeFromLine 45 = .ok (.aload_n 0, 1) := by decide +kernel
theorem dX1_removeFromLine_46 : decode cX1_removeFromLine 46 = .ok (.getfield 19, 3) := by decide +kernel
theorem dX1_removeFromLine_49 : decode cX1_removeFromLine 49 = .ok (.if_icmp .ge 23, 3) := by decide +kernel
theorem dX1_removeFromLine_52 : decode cX1_removeFromLine 52 = .ok (.aload_n 0, 1) := by decide +kernel
theorem dX1_removeFromLine_53 : decode cX1_removeFromLine 53 = .ok (.getfield 11, 3) := by decide +kernel
theorem dX1_removeFromLine_56 : decode cX1_removeFromLine 56 = .ok (.iload_n 2, 1) := by decide +kernel
theorem dX1_removeFromLine_57 : decode cX1_removeFromLine 57 = .ok (.aload_n 0, 1) := by decide +kernel
theorem dX1_removeFromLine_58 : decode cX1_removeFromLine 58 = .ok (.getfield 11, 3) := by decide +kernel
theorem dX1_removeFromLine_61 : decode cX1_removeFromLine 61 = .ok (.iload_n 2, 1) := by decide +kernel
theorem dX1_removeFromLine_62 : decode cX1_removeFromLine 62 = .ok (.iconst 1, 1) := by decide +kernel
theorem dX1_removeFromLine_63 : decode cX1_removeFromLine 63 = .ok (.iadd, 1) := by decide +kernel
theorem dX1_removeFromLine_64 : decode cX1_removeFromLine 64 = .ok (.aaload, 1) := by decide +kernel
theorem dX1_removeFromLine_65 : decode cX1_removeFromLine 65 = .ok (.aastore, 1) := by decide +kernel
theorem dX1_removeFromLine_66 : decode cX1_removeFromLine 66 = .ok (.iinc 2 1, 3) := by decide +kernel
theorem dX1_removeFromLine_69 : decode cX1_removeFromLine 69 = .ok (.goto (-25), 3) := by decide +kernel
theorem dX1_removeFromLine_72 : decode cX1_removeFromLine 72 = .ok (.aload_n 0, 1) := by decide +kernel
theorem dX1_removeFromLine_73 : decode cX1_removeFromLine 73 = .ok (.getfield 11, 3) := by decide +kernel
theorem dX1_removeFromLine_76 : decode cX1_removeFromLine 76 = .ok (.aload_n 0, 1) := by decide +kernel
theorem dX1_removeFromLine_77 : decode cX1_removeFromLine 77 = .ok (.getfield 19, 3) := by decide +kernel
theorem dX1_removeFromLine_80 : decode cX1_removeFromLine 80 = .ok (.aconst_null, 1) := by decide +kernel
theorem dX1_removeFromLine_81 : decode cX1_removeFromLine 81 = .ok (.aastore, 1) := by decide +kernel
theorem dX1_removeFromLine_82 : decode cX1_removeFromLine 82 = .ok (.return_, 1) := by decide +kernel
set_option maxRecDepth 20000 in
theorem ggX1_standBelow_X0_setTowards : GoodIn wsX1_standBelow wsX0_setTowards := goodIn_r _ [7, 8, 9, 10, 11, 18, 19, 20, 21, 22] (by decide +kernel) (by decide +kernel)
set_option maxRecDepth 20000 in
theorem gX1_standBelow_X0_setTowards : GoodIn wsX1_standBelow (wsV RX1 156 RX0 yX0_setTowards wsX0_setTowards) := goodIn_app (goodIn_of _ (by decide +kernel)) ggX1_standBelow_X0_setTowards
theorem dX1_standBelow_0 : decode cX1_standBelow 0 = .ok (.aload_n 1, 1) := by decide +kernel
theorem dX1_standBelow_1 : decode cX1_standBelow 1 = .ok (.ifnull 10, 3) := by decide +kernel
theorem dX1_standBelow_4 : decode cX1_standBelow 4 = .ok (.aload_n 1, 1) := by decide +kernel
theorem dX1_standBelow_5 : decode cX1_standBelow 5 = .ok (.iload_n 2, 1) := by decide +kernel
theorem dX1_standBelow_6 : decode cX1_standBelow 6 = .ok (.aload_n 3, 1) := by decide +kernel
theorem dX1_standBelow_7 : decode cX1_standBelow 7 = .ok (.invokevirtual 156, 3) := by decide +kernel
theorem dX1_standBelow_10 : decode cX1_standBelow 10 = .ok (.return_, 1) := by decide +kernel
theorem dX1_standBelow_11 : decode cX1_standBelow 11 = .ok (.aload_n 0, 1) := by decide +kernel
theorem dX1_standBelow_12 : decode cX1_standBelow 12 = .ok (.aload_n 3, 1) := by decide +kernel
theorem dX1_standBelow_13 : decode cX1_standBelow 13 = .ok (.putfield 77, 3) := by decide +kernel
theorem dX1_standBelow_16 : decode cX1_standBelow 16 = .ok (.aload_n 3, 1) := by decide +kernel
theorem dX1_standBelow_17 : decode cX1_standBelow 17 = .ok (.ifnull 8, 3) := by decide +kernel
theorem dX1_standBelow_20 : decode cX1_standBelow 20 = .ok (.aload_n 3, 1) := by decide +kernel
theorem dX1_standBelow_21 : decode cX1_standBelow 21 = .ok (.aconst_null, 1) := by decide +kernel
theorem dX1_standBelow_22 : decode cX1_standBelow 22 = .ok (.putfield 130, 3) := by decide +kernel
theorem dX1_standBelow_25 : decode cX1_standBelow 25 = .ok (.return_, 1) := by decide +kernel
theorem dX1_addToCompaniesAbove_0 : decode cX1_addToCompaniesAbove 0 = .ok (.aload_n 0, 1) := by decide +kernel
theorem dX1_addToCompaniesAbove_1 : decode cX1_addToCompaniesAbove 1 = .ok (.getfield 130, 3) := by decide +kernel
theorem dX1_addToCompaniesAbove_4 : decode cX1_addToCompaniesAbove 4 = .ok (.astore_n 2, 1) := by decide +kernel
theorem dX1_addToCompaniesAbove_5 : decode cX1_addToCompaniesAbove 5 = .ok (.aload_n 2, 1) := by decide +kernel
theorem dX1_addToCompaniesAbove_6 : decode cX1_addToCompaniesAbove 6 = .ok (.ifnull 21, 3) := by decide +kernel
theorem dX1_addToCompaniesAbove_9 : decode cX1_addToCompaniesAbove 9 = .ok (.aload_n 2, 1) := by decide +kernel
theorem dX1_addToCompaniesAbove_10 : decode cX1_addToCompaniesAbove 10 = .ok (.dup, 1) := by decide +kernel
theorem dX1_addToCompaniesAbove_11 : decode cX1_addToCompaniesAbove 11 = .ok (.getfield 147, 3) := by decide +kernel
theorem dX1_addToCompaniesAbove_14 : decode cX1_addToCompaniesAbove 14 = .ok (.iload_n 1, 1) := by decide +kernel
theorem dX1_addToCompaniesAbove_15 : decode cX1_addToCompaniesAbove 15 = .ok (.iadd, 1) := by decide +kernel
theorem dX1_addToCompaniesAbove_16 : decode cX1_addToCompaniesAbove 16 = .ok (.putfield 147, 3) := by decide +kernel
theorem dX1_addToCompaniesAbove_19 : decode cX1_addToCompaniesAbove 19 = .ok (.aload_n 2, 1) := by decide +kernel
theorem dX1_addToCompaniesAbove_20 : decode cX1_addToCompaniesAbove 20 = .ok (.getfield 130, 3) := by decide +kernel
theorem dX1_addToCompaniesAbove_23 : decode cX1_addToCompaniesAbove 23 = .ok (.astore_n 2, 1) := by decide +kernel
theorem dX1_addToCompaniesAbove_24 : decode cX1_addToCompaniesAbove 24 = .ok (.goto (-19), 3) := by decide +kernel
theorem dX1_addToCompaniesAbove_27 : decode cX1_addToCompaniesAbove 27 = .ok (.return_, 1) := by decide +kernel
set_option maxRecDepth 20000 in
theorem ggX1_removeFromRanks_X1_removeWithOneSide : GoodIn wsX1_removeFromRanks wsX1_removeWithOneSide := goodIn_r _ [10, 1, 2, 4, 5, 11, 12, 9, 13, 3, 14, 15, 16, 17, 18, 19, 20, 21, 22, 23, 24, 25, 26, 27, 31, 32, 33, 34, 35, 36, 37, 38, 39, 40, 41] (by decide +kernel) (by decide +kernel)
set_option maxRecDepth 20000 in
theorem gX1_removeFromRanks_X1_removeWithOneSide : GoodIn wsX1_removeFromRanks (wsV RX1 163 RX1 yX1_removeWithOneSide wsX1_removeWithOneSide) := goodIn_app (goodIn_of _ (by decide +kernel)) ggX1_removeFromRanks_X1_removeWithOneSide
set_option maxRecDepth 20000 in
theorem ggX1_removeFromRanks_X1_standBelow : GoodIn wsX1_removeFromRanks wsX1_standBelow := goodIn_r _ [17, 18, 4, 19, 20, 21, 22, 23, 24, 25, 26, 27, 36, 37, 38, 39, 40, 41, 31, 32, 33, 34, 35] (by decide +kernel) (by decide +kernel)
set_option maxRecDepth 20000 in
theorem gX1_removeFromRanks_X1_standBelow : GoodIn wsX1_removeFromRanks (wsV RX1 43 RX1 yX1_standBelow wsX1_standBelow) := goodIn_app (goodIn_of _ (by decide +kernel)) ggX1_removeFromRanks_X1_standBelow
set_option maxRecDepth 20000 in
theorem ggX1_removeFromRanks_X1_handOver : GoodIn wsX1_removeFromRanks wsX1_handOver := goodIn_r _ [30, 5, 19, 20, 21, 22, 23, 24, 25, 26, 27, 31, 32, 33, 34, 35] (by decide +kernel) (by decide +kernel)
set_option maxRecDepth 20000 in
theorem gX1_removeFromRanks_X1_handOver : GoodIn wsX1_removeFromRanks (va_wsS RX1 166 yX1_handOver wsX1_handOver) := goodIn_app (goodIn_of _ (by decide +kernel)) ggX1_removeFromRanks_X1_handOver
theorem dX1_removeFromRanks_0 : decode cX1_removeFromRanks 0 = .ok (.aload_n 1, 1) := by decide +kernel
theorem dX1_removeFromRanks_1 : decode cX1_removeFromRanks 1 = .ok (.getfield 150, 3) := by decide +kernel
theorem dX1_removeFromRanks_4 : decode cX1_removeFromRanks 4 = .ok (.ifnull 10, 3) := by decide +kernel
theorem dX1_removeFromRanks_7 : decode cX1_removeFromRanks 7 = .ok (.aload_n 1, 1) := by decide +kernel
theorem dX1_removeFromRanks_8 : decode cX1_removeFromRanks 8 = .ok (.getfield 160, 3) := by decide +kernel
theorem dX1_removeFromRanks_11 : decode cX1_removeFromRanks 11 = .ok (.ifnonnull 9, 3) := by decide +kernel
theorem dX1_removeFromRanks_14 : decode cX1_removeFromRanks 14 = .ok (.aload_n 0, 1) := by decide +kernel
theorem dX1_removeFromRanks_15 : decode cX1_removeFromRanks 15 = .ok (.aload_n 1, 1) := by decide +kernel
theorem dX1_removeFromRanks_16 : decode cX1_removeFromRanks 16 = .ok (.invokevirtual 163, 3) := by decide +kernel
theorem dX1_removeFromRanks_19 : decode cX1_removeFromRanks 19 = .ok (.return_, 1) := by decide +kernel
theorem dX1_removeFromRanks_20 : decode cX1_removeFromRanks 20 = .ok (.aload_n 1, 1) := by decide +kernel
theorem dX1_removeFromRanks_21 : decode cX1_removeFromRanks 21 = .ok (.getfield 160, 3) := by decide +kernel
theorem dX1_removeFromRanks_24 : decode cX1_removeFromRanks 24 = .ok (.astore_n 2, 1) := by decide +kernel
theorem dX1_removeFromRanks_25 : decode cX1_removeFromRanks 25 = .ok (.aload_n 2, 1) := by decide +kernel
theorem dX1_removeFromRanks_26 : decode cX1_removeFromRanks 26 = .ok (.getfield 150, 3) := by decide +kernel
theorem dX1_removeFromRanks_29 : decode cX1_removeFromRanks 29 = .ok (.ifnull 11, 3) := by decide +kernel
theorem dX1_removeFromRanks_32 : decode cX1_removeFromRanks 32 = .ok (.aload_n 2, 1) := by decide +kernel
theorem dX1_removeFromRanks_33 : decode cX1_removeFromRanks 33 = .ok (.getfield 150, 3) := by decide +kernel
theorem dX1_removeFromRanks_36 : decode cX1_removeFromRanks 36 = .ok (.astore_n 2, 1) := by decide +kernel
theorem dX1_removeFromRanks_37 : decode cX1_removeFromRanks 37 = .ok (.goto (-12), 3) := by decide +kernel
theorem dX1_removeFromRanks_40 : decode cX1_removeFromRanks 40 = .ok (.aload_n 0, 1) := by decide +kernel
theorem dX1_removeFromRanks_41 : decode cX1_removeFromRanks 41 = .ok (.aload_n 2, 1) := by decide +kernel
theorem dX1_removeFromRanks_42 : decode cX1_removeFromRanks 42 = .ok (.invokevirtual 163, 3) := by decide +kernel
theorem dX1_removeFromRanks_45 : decode cX1_removeFromRanks 45 = .ok (.aload_n 2, 1) := by decide +kernel
theorem dX1_removeFromRanks_46 : decode cX1_removeFromRanks 46 = .ok (.aload_n 1, 1) := by decide +kernel
theorem dX1_removeFromRanks_47 : decode cX1_removeFromRanks 47 = .ok (.getfield 147, 3) := by decide +kernel
theorem dX1_removeFromRanks_50 : decode cX1_removeFromRanks 50 = .ok (.putfield 147, 3) := by decide +kernel
theorem dX1_removeFromRanks_53 : decode cX1_removeFromRanks 53 = .ok (.aload_n 2, 1) := by decide +kernel
theorem dX1_removeFromRanks_54 : decode cX1_removeFromRanks 54 = .ok (.aconst_null, 1) := by decide +kernel
theorem dX1_removeFromRanks_55 : decode cX1_removeFromRanks 55 = .ok (.putfield 150, 3) := by decide +kernel
theorem dX1_removeFromRanks_58 : decode cX1_removeFromRanks 58 = .ok (.aload_n 2, 1) := by decide +kernel
theorem dX1_removeFromRanks_59 : decode cX1_removeFromRanks 59 = .ok (.aconst_null, 1) := by decide +kernel
theorem dX1_removeFromRanks_60 : decode cX1_removeFromRanks 60 = .ok (.putfield 160, 3) := by decide +kernel
theorem dX1_removeFromRanks_63 : decode cX1_removeFromRanks 63 = .ok (.aload_n 0, 1) := by decide +kernel
theorem dX1_removeFromRanks_64 : decode cX1_removeFromRanks 64 = .ok (.aload_n 1, 1) := by decide +kernel
theorem dX1_removeFromRanks_65 : decode cX1_removeFromRanks 65 = .ok (.getfield 130, 3) := by decide +kernel
theorem dX1_removeFromRanks_68 : decode cX1_removeFromRanks 68 = .ok (.aload_n 1, 1) := by decide +kernel
theorem dX1_removeFromRanks_69 : decode cX1_removeFromRanks 69 = .ok (.getfield 100, 3) := by decide +kernel
theorem dX1_removeFromRanks_72 : decode cX1_removeFromRanks 72 = .ok (.aload_n 2, 1) := by decide +kernel
theorem dX1_removeFromRanks_73 : decode cX1_removeFromRanks 73 = .ok (.invokevirtual 43, 3) := by decide +kernel
theorem dX1_removeFromRanks_76 : decode cX1_removeFromRanks 76 = .ok (.aload_n 1, 1) := by decide +kernel
theorem dX1_removeFromRanks_77 : decode cX1_removeFromRanks 77 = .ok (.getfield 150, 3) := by decide +kernel
theorem dX1_removeFromRanks_80 : decode cX1_removeFromRanks 80 = .ok (.aload_n 2, 1) := by decide +kernel
theorem dX1_removeFromRanks_81 : decode cX1_removeFromRanks 81 = .ok (.invokestatic 166, 3) := by decide +kernel
theorem dX1_removeFromRanks_84 : decode cX1_removeFromRanks 84 = .ok (.aload_n 1, 1) := by decide +kernel
theorem dX1_removeFromRanks_85 : decode cX1_removeFromRanks 85 = .ok (.getfield 160, 3) := by decide +kernel
theorem dX1_removeFromRanks_88 : decode cX1_removeFromRanks 88 = .ok (.aload_n 2, 1) := by decide +kernel
theorem dX1_removeFromRanks_89 : decode cX1_removeFromRanks 89 = .ok (.invokestatic 166, 3) := by decide +kernel
theorem dX1_removeFromRanks_92 : decode cX1_removeFromRanks 92 = .ok (.return_, 1) := by decide +kernel
set_option maxRecDepth 20000 in
theorem ggX1_removeWithOneSide_X1_addToCompaniesAbove : GoodIn wsX1_removeWithOneSide wsX1_addToCompaniesAbove := goodIn_r _ [8, 3, 9, 24, 25, 26, 27, 28] (by decide +kernel) (by decide +kernel)
set_option maxRecDepth 20000 in
theorem gX1_removeWithOneSide_X1_addToCompaniesAbove : GoodIn wsX1_removeWithOneSide (va_wsS RX1 47 yX1_addToCompaniesAbove wsX1_addToCompaniesAbove) := goodIn_app (goodIn_of _ (by decide +kernel)) ggX1_removeWithOneSide_X1_addToCompaniesAbove
set_option maxRecDepth 20000 in
theorem ggX1_removeWithOneSide_X1_standBelow : GoodIn wsX1_removeWithOneSide wsX1_standBelow := goodIn_r _ [13, 14, 3, 15, 16, 17, 18, 19, 20, 21, 22, 23, 29, 30, 31, 32, 33, 34, 24, 25, 26, 27, 28] (by decide +kernel) (by decide +kernel)
set_option maxRecDepth 20000 in
theorem gX1_removeWithOneSide_X1_standBelow : GoodIn wsX1_removeWithOneSide (wsV RX1 43 RX1 yX1_standBelow wsX1_standBelow) := goodIn_app (goodIn_of _ (by decide +kernel)) ggX1_removeWithOneSide_X1_standBelow
theorem dX1_removeWithOneSide_0 : decode cX1_removeWithOneSide 0 = .ok (.aload_n 1, 1) := by decide +kernel
theorem dX1_removeWithOneSide_1 : decode cX1_removeWithOneSide 1 = .ok (.getfield 150, 3) := by decide +kernel
theorem dX1_removeWithOneSide_4 : decode cX1_removeWithOneSide 4 = .ok (.ifnull 10, 3) := by decide +kernel
theorem dX1_removeWithOneSide_7 : decode cX1_removeWithOneSide 7 = .ok (.aload_n 1, 1) := by decide +kernel
theorem dX1_removeWithOneSide_8 : decode cX1_removeWithOneSide 8 = .ok (.getfield 150, 3) := by decide +kernel
theorem dX1_removeWithOneSide_11 : decode cX1_removeWithOneSide 11 = .ok (.goto 7, 3) := by decide +kernel
theorem dX1_removeWithOneSide_14 : decode cX1_removeWithOneSide 14 = .ok (.aload_n 1, 1) := by decide +kernel
theorem dX1_removeWithOneSide_15 : decode cX1_removeWithOneSide 15 = .ok (.getfield 160, 3) := by decide +kernel
theorem dX1_removeWithOneSide_18 : decode cX1_removeWithOneSide 18 = .ok (.astore_n 2, 1) := by decide +kernel
theorem dX1_removeWithOneSide_19 : decode cX1_removeWithOneSide 19 = .ok (.aload_n 1, 1) := by decide +kernel
theorem dX1_removeWithOneSide_20 : decode cX1_removeWithOneSide 20 = .ok (.iconst (-1), 1) := by decide +kernel
theorem dX1_removeWithOneSide_21 : decode cX1_removeWithOneSide 21 = .ok (.invokestatic 47, 3) := by decide +kernel
theorem dX1_removeWithOneSide_24 : decode cX1_removeWithOneSide 24 = .ok (.aload_n 0, 1) := by decide +kernel
theorem dX1_removeWithOneSide_25 : decode cX1_removeWithOneSide 25 = .ok (.aload_n 1, 1) := by decide +kernel
theorem dX1_removeWithOneSide_26 : decode cX1_removeWithOneSide 26 = .ok (.getfield 130, 3) := by decide +kernel
theorem dX1_removeWithOneSide_29 : decode cX1_removeWithOneSide 29 = .ok (.aload_n 1, 1) := by decide +kernel
theorem dX1_removeWithOneSide_30 : decode cX1_removeWithOneSide 30 = .ok (.getfield 100, 3) := by decide +kernel
theorem dX1_removeWithOneSide_33 : decode cX1_removeWithOneSide 33 = .ok (.aload_n 2, 1) := by decide +kernel
theorem dX1_removeWithOneSide_34 : decode cX1_removeWithOneSide 34 = .ok (.invokevirtual 43, 3) := by decide +kernel
theorem dX1_removeWithOneSide_37 : decode cX1_removeWithOneSide 37 = .ok (.return_, 1) := by decide +kernel
set_option maxRecDepth 20000 in
theorem ggX1_handOver_X0_setTowards : GoodIn wsX1_handOver wsX0_setTowards := goodIn_r _ [6, 7, 8, 9, 10, 11, 12, 13, 14, 15] (by decide +kernel) (by decide +kernel)
set_option maxRecDepth 20000 in
theorem gX1_handOver_X0_setTowards : GoodIn wsX1_handOver (wsV RX1 156 RX0 yX0_setTowards wsX0_setTowards) := goodIn_app (goodIn_of _ (by decide +kernel)) ggX1_handOver_X0_setTowards
theorem dX1_handOver_0 : decode cX1_handOver 0 = .ok (.aload_n 0, 1) := by decide +kernel
theorem dX1_handOver_1 : decode cX1_handOver 1 = .ok (.ifnull 12, 3) := by decide +kernel
theorem dX1_handOver_4 : decode cX1_handOver 4 = .ok (.aload_n 1, 1) := by decide +kernel
theorem dX1_handOver_5 : decode cX1_handOver 5 = .ok (.aload_n 0, 1) := by decide +kernel
theorem dX1_handOver_6 : decode cX1_handOver 6 = .ok (.getfield 100, 3) := by decide +kernel
theorem dX1_handOver_9 : decode cX1_handOver 9 = .ok (.aload_n 0, 1) := by decide +kernel
theorem dX1_handOver_10 : decode cX1_handOver 10 = .ok (.invokevirtual 156, 3) := by decide +kernel
theorem dX1_handOver_13 : decode cX1_handOver 13 = .ok (.return_, 1) := by decide +kernel
theorem dX1_isCrooked_0 : decode cX1_isCrooked 0 = .ok (.iload_n 0, 1) := by decide +kernel
theorem dX1_isCrooked_1 : decode cX1_isCrooked 1 = .ok (.iconst 1, 1) := by decide +kernel
theorem dX1_isCrooked_2 : decode cX1_isCrooked 2 = .ok (.iadd, 1) := by decide +kernel
theorem dX1_isCrooked_3 : decode cX1_isCrooked 3 = .ok (.iload_n 1, 1) := by decide +kernel
theorem dX1_isCrooked_4 : decode cX1_isCrooked 4 = .ok (.iadd, 1) := by decide +kernel
theorem dX1_isCrooked_5 : decode cX1_isCrooked 5 = .ok (.istore_n 2, 1) := by decide +kernel
theorem dX1_isCrooked_6 : decode cX1_isCrooked 6 = .ok (.iconst 3, 1) := by decide +kernel
theorem dX1_isCrooked_7 : decode cX1_isCrooked 7 = .ok (.iload_n 0, 1) := by decide +kernel
theorem dX1_isCrooked_8 : decode cX1_isCrooked 8 = .ok (.imul, 1) := by decide +kernel
theorem dX1_isCrooked_9 : decode cX1_isCrooked 9 = .ok (.iconst 2, 1) := by decide +kernel
theorem dX1_isCrooked_10 : decode cX1_isCrooked 10 = .ok (.iload_n 2, 1) := by decide +kernel
theorem dX1_isCrooked_11 : decode cX1_isCrooked 11 = .ok (.imul, 1) := by decide +kernel
theorem dX1_isCrooked_12 : decode cX1_isCrooked 12 = .ok (.if_icmp .gt 12, 3) := by decide +kernel
theorem dX1_isCrooked_15 : decode cX1_isCrooked 15 = .ok (.iconst 3, 1) := by decide +kernel
theorem dX1_isCrooked_16 : decode cX1_isCrooked 16 = .ok (.iload_n 1, 1) := by decide +kernel
theorem dX1_isCrooked_17 : decode cX1_isCrooked 17 = .ok (.imul, 1) := by decide +kernel
theorem dX1_isCrooked_18 : decode cX1_isCrooked 18 = .ok (.iconst 2, 1) := by decide +kernel
theorem dX1_isCrooked_19 : decode cX1_isCrooked 19 = .ok (.iload_n 2, 1) := by decide +kernel
theorem dX1_isCrooked_20 : decode cX1_isCrooked 20 = .ok (.imul, 1) := by decide +kernel
theorem dX1_isCrooked_21 : decode cX1_isCrooked 21 = .ok (.if_icmp .le 7, 3) := by decide +kernel
theorem dX1_isCrooked_24 : decode cX1_isCrooked 24 = .ok (.iconst 1, 1) := by decide +kernel
theorem dX1_isCrooked_25 : decode cX1_isCrooked 25 = .ok (.goto 4, 3) := by decide +kernel
theorem dX1_isCrooked_28 : decode cX1_isCrooked 28 = .ok (.iconst 0, 1) := by decide +kernel
theorem dX1_isCrooked_29 : decode cX1_isCrooked 29 = .ok (.ireturn, 1) := by decide +kernel
theorem dX1_allowedDepth_0 : decode cX1_allowedDepth 0 = .ok (.lconst 1, 1) := by decide +kernel
theorem dX1_allowedDepth_1 : decode cX1_allowedDepth 1 = .ok (.lstore_n 1, 1) := by decide +kernel
theorem dX1_allowedDepth_2 : decode cX1_allowedDepth 2 = .ok (.iload_n 0, 1) := by decide +kernel
theorem dX1_allowedDepth_3 : decode cX1_allowedDepth 3 = .ok (.i2l, 1) := by decide +kernel
theorem dX1_allowedDepth_4 : decode cX1_allowedDepth 4 = .ok (.lstore_n 3, 1) := by decide +kernel
theorem dX1_allowedDepth_5 : decode cX1_allowedDepth 5 = .ok (.iconst (-1), 1) := by decide +kernel
theorem dX1_allowedDepth_6 : decode cX1_allowedDepth 6 = .ok (.istore 5, 2) := by decide +kernel
theorem dX1_allowedDepth_8 : decode cX1_allowedDepth 8 = .ok (.iload 5, 2) := by decide +kernel
theorem dX1_allowedDepth_10 : decode cX1_allowedDepth 10 = .ok (.bipush 30, 2) := by decide +kernel
theorem dX1_allowedDepth_12 : decode cX1_allowedDepth 12 = .ok (.if_icmp .ge 27, 3) := by decide +kernel
theorem dX1_allowedDepth_15 : decode cX1_allowedDepth 15 = .ok (.lload_n 1, 1) := by decide +kernel
theorem dX1_allowedDepth_16 : decode cX1_allowedDepth 16 = .ok (.lload_n 3, 1) := by decide +kernel
theorem dX1_allowedDepth_17 : decode cX1_allowedDepth 17 = .ok (.lcmp, 1) := by decide +kernel
theorem dX1_allowedDepth_18 : decode cX1_allowedDepth 18 = .ok (.ifCond .gt 21, 3) := by decide +kernel
theorem dX1_allowedDepth_21 : decode cX1_allowedDepth 21 = .ok (.iinc 5 1, 3) := by decide +kernel
theorem dX1_allowedDepth_24 : decode cX1_allowedDepth 24 = .ok (.lload_n 1, 1) := by decide +kernel
theorem dX1_allowedDepth_25 : decode cX1_allowedDepth 25 = .ok (.ldc2_w 170, 3) := by decide +kernel
theorem dX1_allowedDepth_28 : decode cX1_allowedDepth 28 = .ok (.lmul, 1) := by decide +kernel
theorem dX1_allowedDepth_29 : decode cX1_allowedDepth 29 = .ok (.lstore_n 1, 1) := by decide +kernel
theorem dX1_allowedDepth_30 : decode cX1_allowedDepth 30 = .ok (.lload_n 3, 1) := by decide +kernel
theorem dX1_allowedDepth_31 : decode cX1_allowedDepth 31 = .ok (.ldc2_w 172, 3) := by decide +kernel
theorem dX1_allowedDepth_34 : decode cX1_allowedDepth 34 = .ok (.lmul, 1) := by decide +kernel
theorem dX1_allowedDepth_35 : decode cX1_allowedDepth 35 = .ok (.lstore_n 3, 1) := by decide +kernel
theorem dX1_allowedDepth_36 : decode cX1_allowedDepth 36 = .ok (.goto (-28), 3) := by decide +kernel
theorem dX1_allowedDepth_39 : decode cX1_allowedDepth 39 = .ok (.iload 5, 2) := by decide +kernel
theorem dX1_allowedDepth_41 : decode cX1_allowedDepth 41 = .ok (.ireturn, 1) := by decide +kernel
set_option maxRecDepth 20000 in
theorem ggX1_firstCrookedFrom_X0_hasCrookedCompany : GoodIn wsX1_firstCrookedFrom wsX0_hasCrookedCompany := goodIn_r _ [6, 7, 8, 9, 10, 11, 12, 13, 14, 15, 16, 17, 18, 19] (by decide +kernel) (by decide +kernel)
set_option maxRecDepth 20000 in
theorem gX1_firstCrookedFrom_X0_hasCrookedCompany : GoodIn wsX1_firstCrookedFrom (wsV RX1 174 RX0 yX0_hasCrookedCompany wsX0_hasCrookedCompany) := goodIn_app (goodIn_of _ (by decide +kernel)) ggX1_firstCrookedFrom_X0_hasCrookedCompany
theorem dX1_firstCrookedFrom_0 : decode cX1_firstCrookedFrom 0 = .ok (.aload_n 0, 1) := by decide +kernel
theorem dX1_firstCrookedFrom_1 : decode cX1_firstCrookedFrom 1 = .ok (.astore_n 1, 1) := by decide +kernel
theorem dX1_firstCrookedFrom_2 : decode cX1_firstCrookedFrom 2 = .ok (.aload_n 1, 1) := by decide +kernel
theorem dX1_firstCrookedFrom_3 : decode cX1_firstCrookedFrom 3 = .ok (.ifnull 18, 3) := by decide +kernel
theorem dX1_firstCrookedFrom_6 : decode cX1_firstCrookedFrom 6 = .ok (.aload_n 1, 1) := by decide +kernel
theorem dX1_firstCrookedFrom_7 : decode cX1_firstCrookedFrom 7 = .ok (.invokevirtual 174, 3) := by decide +kernel
theorem dX1_firstCrookedFrom_10 : decode cX1_firstCrookedFrom 10 = .ok (.ifCond .ne 11, 3) := by decide +kernel
theorem dX1_firstCrookedFrom_13 : decode cX1_firstCrookedFrom 13 = .ok (.aload_n 1, 1) := by decide +kernel
theorem dX1_firstCrookedFrom_14 : decode cX1_firstCrookedFrom 14 = .ok (.getfield 130, 3) := by decide +kernel
theorem dX1_firstCrookedFrom_17 : decode cX1_firstCrookedFrom 17 = .ok (.astore_n 1, 1) := by decide +kernel
theorem dX1_firstCrookedFrom_18 : decode cX1_firstCrookedFrom 18 = .ok (.goto (-16), 3) := by decide +kernel
theorem dX1_firstCrookedFrom_21 : decode cX1_firstCrookedFrom 21 = .ok (.aload_n 1, 1) := by decide +kernel
theorem dX1_firstCrookedFrom_22 : decode cX1_firstCrookedFrom 22 = .ok (.areturn, 1) := by decide +kernel
set_option maxRecDepth 20000 in
theorem ggX1_drawUp_X1_smallerThan : GoodIn wsX1_drawUp wsX1_smallerThan := goodIn_r _ [14, 15, 2, 4, 16, 17, 13, 18, 3, 19, 20, 21, 22, 23, 24, 25, 26, 48, 49, 50, 51, 52, 53, 43, 44, 45, 46, 47] (by decide +kernel) (by decide +kernel)
set_option maxRecDepth 20000 in
theorem gX1_drawUp_X1_smallerThan : GoodIn wsX1_drawUp (wsV RX1 103 RX1 yX1_smallerThan wsX1_smallerThan) := goodIn_app (goodIn_of _ (by decide +kernel)) ggX1_drawUp_X1_smallerThan
set_option maxRecDepth 20000 in
theorem ggX1_drawUp_X1_companyOf : GoodIn wsX1_drawUp wsX1_companyOf := goodIn_r _ [18, 3, 43, 44, 45, 46, 47] (by decide +kernel) (by decide +kernel)
set_option maxRecDepth 20000 in
theorem gX1_drawUp_X1_companyOf : GoodIn wsX1_drawUp (va_wsS RX1 153 yX1_companyOf wsX1_companyOf) := goodIn_app (goodIn_of _ (by decide +kernel)) ggX1_drawUp_X1_companyOf
set_option maxRecDepth 20000 in
theorem ggX1_drawUp_X1_halve : GoodIn wsX1_drawUp wsX1_halve := goodIn_r _ [29, 3, 4, 30, 27, 28, 13, 31, 32, 33, 2, 34, 35, 36, 22, 37, 24, 25, 26, 38, 43, 44, 45, 46, 47] (by decide +kernel) (by decide +kernel)
set_option maxRecDepth 20000 in
theorem gX1_drawUp_X1_halve : GoodIn wsX1_drawUp (va_wsS RX1 178 yX1_halve wsX1_halve) := goodIn_app (goodIn_of _ (by decide +kernel)) ggX1_drawUp_X1_halve
set_option maxRecDepth 20000 in
theorem ggX1_drawUp_X1_standBelow : GoodIn wsX1_drawUp wsX1_standBelow := goodIn_r _ [42, 15, 1, 34, 35, 36, 22, 37, 24, 25, 26, 38, 48, 49, 50, 51, 52, 53, 43, 44, 45, 46, 47] (by decide +kernel) (by decide +kernel)
set_option maxRecDepth 20000 in
theorem gX1_drawUp_X1_standBelow : GoodIn wsX1_drawUp (wsV RX1 43 RX1 yX1_standBelow wsX1_standBelow) := goodIn_app (goodIn_of _ (by decide +kernel)) ggX1_drawUp_X1_standBelow
theorem dX1_drawUp_0 : decode cX1_drawUp 0 = .ok (.aload_n 1, 1) := by decide +kernel
theorem dX1_drawUp_1 : decode cX1_drawUp 1 = .ok (.ifnonnull 5, 3) := by decide +kernel
theorem dX1_drawUp_4 : decode cX1_drawUp 4 = .ok (.aconst_null, 1) := by decide +kernel
theorem dX1_drawUp_5 : decode cX1_drawUp 5 = .ok (.areturn, 1) := by decide +kernel
theorem dX1_drawUp_6 : decode cX1_drawUp 6 = .ok (.aload_n 1, 1) := by decide +kernel
theorem dX1_drawUp_7 : decode cX1_drawUp 7 = .ok (.getfield 130, 3) := by decide +kernel
theorem dX1_drawUp_10 : decode cX1_drawUp 10 = .ok (.astore_n 2, 1) := by decide +kernel
theorem dX1_drawUp_11 : decode cX1_drawUp 11 = .ok (.aload_n 1, 1) := by decide +kernel
theorem dX1_drawUp_12 : decode cX1_drawUp 12 = .ok (.getfield 100, 3) := by decide +kernel
theorem dX1_drawUp_15 : decode cX1_drawUp 15 = .ok (.istore_n 3, 1) := by decide +kernel
theorem dX1_drawUp_16 : decode cX1_drawUp 16 = .ok (.aload_n 1, 1) := by decide +kernel
theorem dX1_drawUp_17 : decode cX1_drawUp 17 = .ok (.getfield 147, 3) := by decide +kernel
theorem dX1_drawUp_20 : decode cX1_drawUp 20 = .ok (.istore 4, 2) := by decide +kernel
theorem dX1_drawUp_22 : decode cX1_drawUp 22 = .ok (.aload_n 0, 1) := by decide +kernel
theorem dX1_drawUp_23 : decode cX1_drawUp 23 = .ok (.iload_n 3, 1) := by decide +kernel
theorem dX1_drawUp_24 : decode cX1_drawUp 24 = .ok (.invokevirtual 103, 3) := by decide +kernel
theorem dX1_drawUp_27 : decode cX1_drawUp 27 = .ok (.aload_n 1, 1) := by decide +kernel
theorem dX1_drawUp_28 : decode cX1_drawUp 28 = .ok (.getfield 150, 3) := by decide +kernel
theorem dX1_drawUp_31 : decode cX1_drawUp 31 = .ok (.invokestatic 153, 3) := by decide +kernel
theorem dX1_drawUp_34 : decode cX1_drawUp 34 = .ok (.isub, 1) := by decide +kernel
theorem dX1_drawUp_35 : decode cX1_drawUp 35 = .ok (.istore 5, 2) := by decide +kernel
theorem dX1_drawUp_37 : decode cX1_drawUp 37 = .ok (.aload_n 0, 1) := by decide +kernel
theorem dX1_drawUp_38 : decode cX1_drawUp 38 = .ok (.getfield 11, 3) := by decide +kernel
theorem dX1_drawUp_41 : decode cX1_drawUp 41 = .ok (.iload 5, 2) := by decide +kernel
theorem dX1_drawUp_43 : decode cX1_drawUp 43 = .ok (.iload 4, 2) := by decide +kernel
theorem dX1_drawUp_45 : decode cX1_drawUp 45 = .ok (.iconst 0, 1) := by decide +kernel
theorem dX1_drawUp_46 : decode cX1_drawUp 46 = .ok (.invokestatic 178, 3) := by decide +kernel
theorem dX1_drawUp_49 : decode cX1_drawUp 49 = .ok (.astore 6, 2) := by decide +kernel
theorem dX1_drawUp_51 : decode cX1_drawUp 51 = .ok (.aload_n 0, 1) := by decide +kernel
theorem dX1_drawUp_52 : decode cX1_drawUp 52 = .ok (.aload_n 2, 1) := by decide +kernel
theorem dX1_drawUp_53 : decode cX1_drawUp 53 = .ok (.iload_n 3, 1) := by decide +kernel
theorem dX1_drawUp_54 : decode cX1_drawUp 54 = .ok (.aload 6, 2) := by decide +kernel
theorem dX1_drawUp_56 : decode cX1_drawUp 56 = .ok (.invokevirtual 43, 3) := by decide +kernel
theorem dX1_drawUp_59 : decode cX1_drawUp 59 = .ok (.aload_n 0, 1) := by decide +kernel
theorem dX1_drawUp_60 : decode cX1_drawUp 60 = .ok (.dup, 1) := by decide +kernel
theorem dX1_drawUp_61 : decode cX1_drawUp 61 = .ok (.getfield 182, 3) := by decide +kernel
theorem dX1_drawUp_64 : decode cX1_drawUp 64 = .ok (.iconst 1, 1) := by decide +kernel
theorem dX1_drawUp_65 : decode cX1_drawUp 65 = .ok (.iadd, 1) := by decide +kernel
theorem dX1_drawUp_66 : decode cX1_drawUp 66 = .ok (.putfield 182, 3) := by decide +kernel
theorem dX1_drawUp_69 : decode cX1_drawUp 69 = .ok (.aload_n 0, 1) := by decide +kernel
theorem dX1_drawUp_70 : decode cX1_drawUp 70 = .ok (.dup, 1) := by decide +kernel
theorem dX1_drawUp_71 : decode cX1_drawUp 71 = .ok (.getfield 185, 3) := by decide +kernel
theorem dX1_drawUp_74 : decode cX1_drawUp 74 = .ok (.iload 4, 2) := by decide +kernel
theorem dX1_drawUp_76 : decode cX1_drawUp 76 = .ok (.iadd, 1) := by decide +kernel
theorem dX1_drawUp_77 : decode cX1_drawUp 77 = .ok (.putfield 185, 3) := by decide +kernel
theorem dX1_drawUp_80 : decode cX1_drawUp 80 = .ok (.aload_n 2, 1) := by decide +kernel
theorem dX1_drawUp_81 : decode cX1_drawUp 81 = .ok (.ifnonnull 11, 3) := by decide +kernel
theorem dX1_drawUp_84 : decode cX1_drawUp 84 = .ok (.aload_n 0, 1) := by decide +kernel
theorem dX1_drawUp_85 : decode cX1_drawUp 85 = .ok (.aload_n 0, 1) := by decide +kernel
theorem dX1_drawUp_86 : decode cX1_drawUp 86 = .ok (.getfield 19, 3) := by decide +kernel
theorem dX1_drawUp_89 : decode cX1_drawUp 89 = .ok (.putfield 51, 3) := by decide +kernel
theorem dX1_drawUp_92 : decode cX1_drawUp 92 = .ok (.aload 6, 2) := by decide +kernel
theorem dX1_drawUp_94 : decode cX1_drawUp 94 = .ok (.areturn, 1) := by decide +kernel
set_option maxRecDepth 20000 in
theorem ggX1_halve_X1_halve : GoodIn wsX1_halve wsX1_halve := goodIn_r _ [0, 1, 2, 3, 4, 5, 6, 7, 8, 9, 10, 11, 12, 13, 14, 15, 16, 17, 18, 19, 20, 21, 22, 23, 24] (by decide +kernel) (by decide +kernel)
set_option maxRecDepth 20000 in
theorem gX1_halve_X1_halve : GoodIn wsX1_halve (va_wsS RX1 178 yX1_halve wsX1_halve) := goodIn_app (goodIn_of _ (by decide +kernel)) ggX1_halve_X1_halve
set_option maxRecDepth 20000 in
theorem ggX1_halve_X1_handOver : GoodIn wsX1_halve wsX1_handOver := goodIn_r _ [9, 10, 11, 12, 13, 14, 15, 16, 17, 18, 19, 20, 21, 22, 23, 24] (by decide +kernel) (by decide +kernel)
set_option maxRecDepth 20000 in
theorem gX1_halve_X1_handOver : GoodIn wsX1_halve (va_wsS RX1 166 yX1_handOver wsX1_handOver) := goodIn_app (goodIn_of _ (by decide +kernel)) ggX1_halve_X1_handOver
theorem dX1_halve_0 : decode cX1_halve 0 = .ok (.iload_n 2, 1) := by decide +kernel
theorem dX1_halve_1 : decode cX1_halve 1 = .ok (.ifCond .le 9, 3) := by decide +kernel
theorem dX1_halve_4 : decode cX1_halve 4 = .ok (.iload_n 3, 1) := by decide +kernel
theorem dX1_halve_5 : decode cX1_halve 5 = .ok (.bipush 40, 2) := by decide +kernel
theorem dX1_halve_7 : decode cX1_halve 7 = .ok (.if_icmp .le 5, 3) := by decide +kernel
theorem dX1_halve_10 : decode cX1_halve 10 = .ok (.aconst_null, 1) := by decide +kernel
theorem dX1_halve_11 : decode cX1_halve 11 = .ok (.areturn, 1) := by decide +kernel
theorem dX1_halve_12 : decode cX1_halve 12 = .ok (.iload_n 2, 1) := by decide +kernel
theorem dX1_halve_13 : decode cX1_halve 13 = .ok (.iconst 1, 1) := by decide +kernel
theorem dX1_halve_14 : decode cX1_halve 14 = .ok (.isub, 1) := by decide +kernel
theorem dX1_halve_15 : decode cX1_halve 15 = .ok (.iconst 2, 1) := by decide +kernel
theorem dX1_halve_16 : decode cX1_halve 16 = .ok (.idiv, 1) := by decide +kernel
theorem dX1_halve_17 : decode cX1_halve 17 = .ok (.istore 4, 2) := by decide +kernel
theorem dX1_halve_19 : decode cX1_halve 19 = .ok (.iload_n 1, 1) := by decide +kernel
theorem dX1_halve_20 : decode cX1_halve 20 = .ok (.iload 4, 2) := by decide +kernel
theorem dX1_halve_22 : decode cX1_halve 22 = .ok (.iadd, 1) := by decide +kernel
theorem dX1_halve_23 : decode cX1_halve 23 = .ok (.istore 5, 2) := by decide +kernel
theorem dX1_halve_25 : decode cX1_halve 25 = .ok (.aload_n 0, 1) := by decide +kernel
theorem dX1_halve_26 : decode cX1_halve 26 = .ok (.ifnull 22, 3) := by decide +kernel
theorem dX1_halve_29 : decode cX1_halve 29 = .ok (.iload 5, 2) := by decide +kernel
theorem dX1_halve_31 : decode cX1_halve 31 = .ok (.ifCond .lt 17, 3) := by decide +kernel
theorem dX1_halve_34 : decode cX1_halve 34 = .ok (.iload 5, 2) := by decide +kernel
theorem dX1_halve_36 : decode cX1_halve 36 = .ok (.aload_n 0, 1) := by decide +kernel
theorem dX1_halve_37 : decode cX1_halve 37 = .ok (.arraylength, 1) := by decide +kernel
theorem dX1_halve_38 : decode cX1_halve 38 = .ok (.if_icmp .ge 10, 3) := by decide +kernel
theorem dX1_halve_41 : decode cX1_halve 41 = .ok (.aload_n 0, 1) := by decide +kernel
theorem dX1_halve_42 : decode cX1_halve 42 = .ok (.iload 5, 2) := by decide +kernel
theorem dX1_halve_44 : decode cX1_halve 44 = .ok (.aaload, 1) := by decide +kernel
theorem dX1_halve_45 : decode cX1_halve 45 = .ok (.ifnonnull 5, 3) := by decide +kernel
theorem dX1_halve_48 : decode cX1_halve 48 = .ok (.aconst_null, 1) := by decide +kernel
theorem dX1_halve_49 : decode cX1_halve 49 = .ok (.areturn, 1) := by decide +kernel
theorem dX1_halve_50 : decode cX1_halve 50 = .ok (.aload_n 0, 1) := by decide +kernel
theorem dX1_halve_51 : decode cX1_halve 51 = .ok (.iload 5, 2) := by decide +kernel
theorem dX1_halve_53 : decode cX1_halve 53 = .ok (.aaload, 1) := by decide +kernel
theorem dX1_halve_54 : decode cX1_halve 54 = .ok (.astore 6, 2) := by decide +kernel
theorem dX1_halve_56 : decode cX1_halve 56 = .ok (.aload 6, 2) := by decide +kernel
theorem dX1_halve_58 : decode cX1_halve 58 = .ok (.iload_n 2, 1) := by decide +kernel
theorem dX1_halve_59 : decode cX1_halve 59 = .ok (.putfield 147, 3) := by decide +kernel
theorem dX1_halve_62 : decode cX1_halve 62 = .ok (.aload 6, 2) := by decide +kernel
theorem dX1_halve_64 : decode cX1_halve 64 = .ok (.aconst_null, 1) := by decide +kernel
theorem dX1_halve_65 : decode cX1_halve 65 = .ok (.putfield 150, 3) := by decide +kernel
theorem dX1_halve_68 : decode cX1_halve 68 = .ok (.aload 6, 2) := by decide +kernel
theorem dX1_halve_70 : decode cX1_halve 70 = .ok (.aconst_null, 1) := by decide +kernel
theorem dX1_halve_71 : decode cX1_halve 71 = .ok (.putfield 160, 3) := by decide +kernel
theorem dX1_halve_74 : decode cX1_halve 74 = .ok (.aload_n 0, 1) := by decide +kernel
theorem dX1_halve_75 : decode cX1_halve 75 = .ok (.iload_n 1, 1) := by decide +kernel
theorem dX1_halve_76 : decode cX1_halve 76 = .ok (.iload 4, 2) := by decide +kernel
theorem dX1_halve_78 : decode cX1_halve 78 = .ok (.iload_n 3, 1) := by decide +kernel
theorem dX1_halve_79 : decode cX1_halve 79 = .ok (.iconst 1, 1) := by decide +kernel
theorem dX1_halve_80 : decode cX1_halve 80 = .ok (.iadd, 1) := by decide +kernel
theorem dX1_halve_81 : decode cX1_halve 81 = .ok (.invokestatic 178, 3) := by decide +kernel
theorem dX1_halve_84 : decode cX1_halve 84 = .ok (.aload 6, 2) := by decide +kernel
theorem dX1_halve_86 : decode cX1_halve 86 = .ok (.invokestatic 166, 3) := by decide +kernel
theorem dX1_halve_89 : decode cX1_halve 89 = .ok (.aload_n 0, 1) := by decide +kernel
theorem dX1_halve_90 : decode cX1_halve 90 = .ok (.iload 5, 2) := by decide +kernel
theorem dX1_halve_92 : decode cX1_halve 92 = .ok (.iconst 1, 1) := by decide +kernel
theorem dX1_halve_93 : decode cX1_halve 93 = .ok (.iadd, 1) := by decide +kernel
theorem dX1_halve_94 : decode cX1_halve 94 = .ok (.iload_n 2, 1) := by decide +kernel
theorem dX1_halve_95 : decode cX1_halve 95 = .ok (.iconst 1, 1) := by decide +kernel
theorem dX1_halve_96 : decode cX1_halve 96 = .ok (.isub, 1) := by decide +kernel
theorem dX1_halve_97 : decode cX1_halve 97 = .ok (.iload 4, 2) := by decide +kernel
theorem dX1_halve_99 : decode cX1_halve 99 = .ok (.isub, 1) := by decide +kernel
theorem dX1_halve_100 : decode cX1_halve 100 = .ok (.iload_n 3, 1) := by decide +kernel
theorem dX1_halve_101 : decode cX1_halve 101 = .ok (.iconst 1, 1) := by decide +kernel
theorem dX1_halve_102 : decode cX1_halve 102 = .ok (.iadd, 1) := by decide +kernel
theorem dX1_halve_103 : decode cX1_halve 103 = .ok (.invokestatic 178, 3) := by decide +kernel
theorem dX1_halve_106 : decode cX1_halve 106 = .ok (.aload 6, 2) := by decide +kernel
theorem dX1_halve_108 : decode cX1_halve 108 = .ok (.invokestatic 166, 3) := by decide +kernel
theorem dX1_halve_111 : decode cX1_halve 111 = .ok (.aload 6, 2) := by decide +kernel
theorem dX1_halve_113 : decode cX1_halve 113 = .ok (.areturn, 1) := by decide +kernel
set_option maxRecDepth 20000 in
theorem ggX1_tell_X0_depth : GoodIn wsX1_tell wsX0_depth := goodIn_r _ [10, 11, 54, 55, 56, 57, 58] (by decide +kernel) (by decide +kernel)
set_option maxRecDepth 20000 in
theorem gX1_tell_X0_depth : GoodIn wsX1_tell (wsV RX1 54 RX0 yX0_depth wsX0_depth) := goodIn_app (goodIn_of _ (by decide +kernel)) ggX1_tell_X0_depth
set_option maxRecDepth 20000 in
theorem ggX1_tell_X1_heightOf : GoodIn wsX1_tell wsX1_heightOf := goodIn_r _ [15, 5, 54, 55, 56, 57, 58] (by decide +kernel) (by decide +kernel)
set_option maxRecDepth 20000 in
theorem gX1_tell_X1_heightOf : GoodIn wsX1_tell (va_wsS RX1 81 yX1_heightOf wsX1_heightOf) := goodIn_app (goodIn_of _ (by decide +kernel)) ggX1_tell_X1_heightOf
set_option maxRecDepth 20000 in
theorem ggX1_tell_X1_deepestBelow : GoodIn wsX1_tell wsX1_deepestBelow := goodIn_r _ [19, 5, 2, 4, 20, 21, 22, 23, 24, 25, 26, 14, 27, 28, 29, 30, 31, 32, 33, 34, 9, 35, 36, 37, 38, 39, 40, 41, 42, 43, 44, 45, 46, 47, 1, 54, 55, 56, 57, 58, 59, 60, 61, 62, 63, 64] (by decide +kernel) (by decide +kernel)
set_option maxRecDepth 20000 in
theorem gX1_tell_X1_deepestBelow : GoodIn wsX1_tell (wsV RX1 188 RX1 yX1_deepestBelow wsX1_deepestBelow) := goodIn_app (goodIn_of _ (by decide +kernel)) ggX1_tell_X1_deepestBelow
set_option maxRecDepth 20000 in
theorem ggX1_tell_X0_hasCrookedCompany : GoodIn wsX1_tell wsX0_hasCrookedCompany := goodIn_r _ [51, 37, 38, 30, 14, 31, 4, 52, 53, 54, 55, 56, 57, 58] (by decide +kernel) (by decide +kernel)
set_option maxRecDepth 20000 in
theorem gX1_tell_X0_hasCrookedCompany : GoodIn wsX1_tell (wsV RX1 174 RX0 yX0_hasCrookedCompany wsX0_hasCrookedCompany) := goodIn_app (goodIn_of _ (by decide +kernel)) ggX1_tell_X0_hasCrookedCompany
set_option maxRecDepth 20000 in
theorem ggX1_tell_X1_smallerThan : GoodIn wsX1_tell wsX1_smallerThan := goodIn_r _ [27, 28, 5, 2, 29, 30, 14, 31, 4, 32, 33, 34, 9, 35, 36, 37, 38, 59, 60, 61, 62, 63, 64, 54, 55, 56, 57, 58] (by decide +kernel) (by decide +kernel)
set_option maxRecDepth 20000 in
theorem gX1_tell_X1_smallerThan : GoodIn wsX1_tell (wsV RX1 103 RX1 yX1_smallerThan wsX1_smallerThan) := goodIn_app (goodIn_of _ (by decide +kernel)) ggX1_tell_X1_smallerThan
theorem dX1_tell_0 : decode cX1_tell 0 = .ok (.aload_n 1, 1) := by decide +kernel
theorem dX1_tell_1 : decode cX1_tell 1 = .ok (.ifnonnull 5, 3) := by decide +kernel
theorem dX1_tell_4 : decode cX1_tell 4 = .ok (.iconst (-1), 1) := by decide +kernel
theorem dX1_tell_5 : decode cX1_tell 5 = .ok (.ireturn, 1) := by decide +kernel
theorem dX1_tell_6 : decode cX1_tell 6 = .ok (.iload_n 2, 1) := by decide +kernel
theorem dX1_tell_7 : decode cX1_tell 7 = .ok (.tableswitch 94 0 6 #[41, 46, 54, 62, 70, 75, 81], 41) := by decide +kernel
theorem dX1_tell_48 : decode cX1_tell 48 = .ok (.aload_n 1, 1) := by decide +kernel
theorem dX1_tell_49 : decode cX1_tell 49 = .ok (.invokevirtual 54, 3) := by decide +kernel
theorem dX1_tell_52 : decode cX1_tell 52 = .ok (.ireturn, 1) := by decide +kernel
theorem dX1_tell_53 : decode cX1_tell 53 = .ok (.aload_n 1, 1) := by decide +kernel
theorem dX1_tell_54 : decode cX1_tell 54 = .ok (.getfield 130, 3) := by decide +kernel
theorem dX1_tell_57 : decode cX1_tell 57 = .ok (.invokestatic 81, 3) := by decide +kernel
theorem dX1_tell_60 : decode cX1_tell 60 = .ok (.ireturn, 1) := by decide +kernel
theorem dX1_tell_61 : decode cX1_tell 61 = .ok (.aload_n 1, 1) := by decide +kernel
theorem dX1_tell_62 : decode cX1_tell 62 = .ok (.getfield 150, 3) := by decide +kernel
theorem dX1_tell_65 : decode cX1_tell 65 = .ok (.invokestatic 81, 3) := by decide +kernel
theorem dX1_tell_68 : decode cX1_tell 68 = .ok (.ireturn, 1) := by decide +kernel
theorem dX1_tell_69 : decode cX1_tell 69 = .ok (.aload_n 1, 1) := by decide +kernel
theorem dX1_tell_70 : decode cX1_tell 70 = .ok (.getfield 160, 3) := by decide +kernel
theorem dX1_tell_73 : decode cX1_tell 73 = .ok (.invokestatic 81, 3) := by decide +kernel
theorem dX1_tell_76 : decode cX1_tell 76 = .ok (.ireturn, 1) := by decide +kernel
theorem dX1_tell_77 : decode cX1_tell 77 = .ok (.aload_n 1, 1) := by decide +kernel
theorem dX1_tell_78 : decode cX1_tell 78 = .ok (.getfield 147, 3) := by decide +kernel
theorem dX1_tell_81 : decode cX1_tell 81 = .ok (.ireturn, 1) := by decide +kernel
theorem dX1_tell_82 : decode cX1_tell 82 = .ok (.aload_n 0, 1) := by decide +kernel
theorem dX1_tell_83 : decode cX1_tell 83 = .ok (.aload_n 1, 1) := by decide +kernel
theorem dX1_tell_84 : decode cX1_tell 84 = .ok (.invokevirtual 188, 3) := by decide +kernel
theorem dX1_tell_87 : decode cX1_tell 87 = .ok (.ireturn, 1) := by decide +kernel
theorem dX1_tell_88 : decode cX1_tell 88 = .ok (.aload_n 1, 1) := by decide +kernel
theorem dX1_tell_89 : decode cX1_tell 89 = .ok (.invokevirtual 174, 3) := by decide +kernel
theorem dX1_tell_92 : decode cX1_tell 92 = .ok (.ifCond .eq 7, 3) := by decide +kernel
theorem dX1_tell_95 : decode cX1_tell 95 = .ok (.iconst 1, 1) := by decide +kernel
theorem dX1_tell_96 : decode cX1_tell 96 = .ok (.goto 4, 3) := by decide +kernel
theorem dX1_tell_99 : decode cX1_tell 99 = .ok (.iconst 0, 1) := by decide +kernel
theorem dX1_tell_100 : decode cX1_tell 100 = .ok (.ireturn, 1) := by decide +kernel
theorem dX1_tell_101 : decode cX1_tell 101 = .ok (.aload_n 0, 1) := by decide +kernel
theorem dX1_tell_102 : decode cX1_tell 102 = .ok (.aload_n 1, 1) := by decide +kernel
theorem dX1_tell_103 : decode cX1_tell 103 = .ok (.getfield 100, 3) := by decide +kernel
theorem dX1_tell_106 : decode cX1_tell 106 = .ok (.invokevirtual 103, 3) := by decide +kernel
theorem dX1_tell_109 : decode cX1_tell 109 = .ok (.ireturn, 1) := by decide +kernel
set_option maxRecDepth 20000 in
theorem ggX1_tally_X1_heightOf : GoodIn wsX1_tally wsX1_heightOf := goodIn_r _ [9, 10, 66, 67, 68, 69, 70] (by decide +kernel) (by decide +kernel)
set_option maxRecDepth 20000 in
theorem gX1_tally_X1_heightOf : GoodIn wsX1_tally (va_wsS RX1 81 yX1_heightOf wsX1_heightOf) := goodIn_app (goodIn_of _ (by decide +kernel)) ggX1_tally_X1_heightOf
set_option maxRecDepth 20000 in
theorem ggX1_tally_X1_deepestBelow : GoodIn wsX1_tally wsX1_deepestBelow := goodIn_r _ [14, 10, 15, 16, 17, 18, 19, 20, 21, 22, 23, 8, 24, 2, 25, 26, 27, 28, 29, 30, 31, 32, 33, 34, 35, 36, 37, 38, 39, 1, 40, 41, 42, 43, 44, 66, 67, 68, 69, 70, 60, 61, 62, 63, 64, 65] (by decide +kernel) (by decide +kernel)
set_option maxRecDepth 20000 in
theorem gX1_tally_X1_deepestBelow : GoodIn wsX1_tally (wsV RX1 188 RX1 yX1_deepestBelow wsX1_deepestBelow) := goodIn_app (goodIn_of _ (by decide +kernel)) ggX1_tally_X1_deepestBelow
set_option maxRecDepth 20000 in
theorem ggX1_tally_X1_allowedDepth : GoodIn wsX1_tally wsX1_allowedDepth := goodIn_r _ [47, 48, 49] (by decide +kernel) (by decide +kernel)
set_option maxRecDepth 20000 in
theorem gX1_tally_X1_allowedDepth : GoodIn wsX1_tally (va_wsS RX1 58 yX1_allowedDepth wsX1_allowedDepth) := goodIn_app (goodIn_of _ (by decide +kernel)) ggX1_tally_X1_allowedDepth
set_option maxRecDepth 20000 in
theorem ggX1_tally_X1_crookedCompanies : GoodIn wsX1_tally wsX1_crookedCompanies := goodIn_r _ [53, 1, 36, 37, 38, 8, 39, 40, 54, 55, 56, 31, 57, 34, 35, 26, 27, 16, 58, 59, 60, 61, 62, 63, 64, 65, 66, 67, 68, 69, 70] (by decide +kernel) (by decide +kernel)
set_option maxRecDepth 20000 in
theorem gX1_tally_X1_crookedCompanies : GoodIn wsX1_tally (wsV RX1 191 RX1 yX1_crookedCompanies wsX1_crookedCompanies) := goodIn_app (goodIn_of _ (by decide +kernel)) ggX1_tally_X1_crookedCompanies
