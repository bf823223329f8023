theorem wsL_law_x0 : ∀ w ∈ (vx_atS RX1 31 "java/lang/IllegalStateException" ["java/lang/RuntimeException", "java/lang/Exception"]).filter goodWord, w ∈ lw_tbl := by decide +kernel
theorem wsL_law_x1 : ∀ w ∈ (vx_atS RX1 144 "java/lang/IllegalArgumentException" ["java/lang/RuntimeException", "java/lang/Exception"]).filter goodWord, w ∈ lw_tbl := by decide +kernel
theorem wsL_law_x2 : ∀ w ∈ (vx_atS RX1 99 "java/lang/IndexOutOfBoundsException" ["java/lang/RuntimeException", "java/lang/Exception"]).filter goodWord, w ∈ lw_tbl := by decide +kernel
theorem wsL_law_in : ∀ w ∈ wsL_law, w ∈ lw_tbl := fun w h => (List.mem_append.mp h).elim (fun h => (List.mem_append.mp h).elim (fun h => (List.mem_append.mp h).elim (fun h => wsL_law_in0 w h) (fun h => wsL_law_x0 w h)) (fun h => wsL_law_x1 w h)) (fun h => wsL_law_x2 w h)
theorem inlX0 : ∀ w ∈ wsX00, w ∈ wsL_law := fun _ h => List.mem_append_left _ (List.mem_append_left _ (List.mem_append_left _ (List.mem_append_left _ (List.mem_append_right _ h))))
theorem inX0 : ∀ w ∈ wsX00, w ∈ lw_tbl := fun w h => wsL_law_in w (inlX0 w h)
theorem inlX1 : ∀ w ∈ wsX10, w ∈ wsL_law := fun _ h => List.mem_append_left _ (List.mem_append_left _ (List.mem_append_left _ (List.mem_append_left _ (List.mem_append_left _ (List.mem_append_left _ (List.mem_append_right _ h))))))
theorem inX1 : ∀ w ∈ wsX10, w ∈ lw_tbl := fun w h => wsL_law_in w (inlX1 w h)
theorem inlX2 : ∀ w ∈ wsX20, w ∈ wsL_law := fun _ h => List.mem_append_left _ (List.mem_append_left _ (List.mem_append_left _ (List.mem_append_left _ (List.mem_append_left _ (List.mem_append_right _ h)))))
theorem inX2 : ∀ w ∈ wsX20, w ∈ lw_tbl := fun w h => wsL_law_in w (inlX2 w h)
theorem inJ9 : ∀ w ∈ wsJ90, w ∈ lw_tbl := by decide +kernel
theorem inJ0 : ∀ w ∈ wsJ00, w ∈ lw_tbl := by decide +kernel
theorem dX0_init_0 : decode cX0_init 0 = .ok (.aload_n 0, 1) := by decide +kernel
theorem dX0_init_1 : decode cX0_init 1 = .ok (.invokespecial 1, 3) := by decide +kernel
theorem dX0_init_4 : decode cX0_init 4 = .ok (.aload_n 0, 1) := by decide +kernel
theorem dX0_init_5 : decode cX0_init 5 = .ok (.iload_n 1, 1) := by decide +kernel
theorem dX0_init_6 : decode cX0_init 6 = .ok (.putfield 7, 3) := by decide +kernel
theorem dX0_init_9 : decode cX0_init 9 = .ok (.aload_n 0, 1) := by decide +kernel
theorem dX0_init_10 : decode cX0_init 10 = .ok (.iconst 1, 1) := by decide +kernel
theorem dX0_init_11 : decode cX0_init 11 = .ok (.putfield 13, 3) := by decide +kernel
theorem dX0_init_14 : decode cX0_init 14 = .ok (.return_, 1) := by decide +kernel
theorem dX0_towards_0 : decode cX0_towards 0 = .ok (.iload_n 1, 1) := by decide +kernel
theorem dX0_towards_1 : decode cX0_towards 1 = .ok (.aload_n 0, 1) := by decide +kernel
theorem dX0_towards_2 : decode cX0_towards 2 = .ok (.getfield 7, 3) := by decide +kernel
theorem dX0_towards_5 : decode cX0_towards 5 = .ok (.if_icmp .ge 10, 3) := by decide +kernel
theorem dX0_towards_8 : decode cX0_towards 8 = .ok (.aload_n 0, 1) := by decide +kernel
theorem dX0_towards_9 : decode cX0_towards 9 = .ok (.getfield 16, 3) := by decide +kernel
theorem dX0_towards_12 : decode cX0_towards 12 = .ok (.goto 7, 3) := by decide +kernel
theorem dX0_towards_15 : decode cX0_towards 15 = .ok (.aload_n 0, 1) := by decide +kernel
theorem dX0_towards_16 : decode cX0_towards 16 = .ok (.getfield 20, 3) := by decide +kernel
theorem dX0_towards_19 : decode cX0_towards 19 = .ok (.areturn, 1) := by decide +kernel
theorem dX0_setTowards_0 : decode cX0_setTowards 0 = .ok (.iload_n 1, 1) := by decide +kernel
theorem dX0_setTowards_1 : decode cX0_setTowards 1 = .ok (.aload_n 0, 1) := by decide +kernel
theorem dX0_setTowards_2 : decode cX0_setTowards 2 = .ok (.getfield 7, 3) := by decide +kernel
theorem dX0_setTowards_5 : decode cX0_setTowards 5 = .ok (.if_icmp .ge 11, 3) := by decide +kernel
theorem dX0_setTowards_8 : decode cX0_setTowards 8 = .ok (.aload_n 0, 1) := by decide +kernel
theorem dX0_setTowards_9 : decode cX0_setTowards 9 = .ok (.aload_n 2, 1) := by decide +kernel
theorem dX0_setTowards_10 : decode cX0_setTowards 10 = .ok (.putfield 16, 3) := by decide +kernel
theorem dX0_setTowards_13 : decode cX0_setTowards 13 = .ok (.goto 8, 3) := by decide +kernel
theorem dX0_setTowards_16 : decode cX0_setTowards 16 = .ok (.aload_n 0, 1) := by decide +kernel
theorem dX0_setTowards_17 : decode cX0_setTowards 17 = .ok (.aload_n 2, 1) := by decide +kernel
theorem dX0_setTowards_18 : decode cX0_setTowards 18 = .ok (.putfield 20, 3) := by decide +kernel
theorem dX0_setTowards_21 : decode cX0_setTowards 21 = .ok (.aload_n 2, 1) := by decide +kernel
theorem dX0_setTowards_22 : decode cX0_setTowards 22 = .ok (.ifnull 8, 3) := by decide +kernel
theorem dX0_setTowards_25 : decode cX0_setTowards 25 = .ok (.aload_n 2, 1) := by decide +kernel
theorem dX0_setTowards_26 : decode cX0_setTowards 26 = .ok (.aload_n 0, 1) := by decide +kernel
theorem dX0_setTowards_27 : decode cX0_setTowards 27 = .ok (.putfield 23, 3) := by decide +kernel
theorem dX0_setTowards_30 : decode cX0_setTowards 30 = .ok (.return_, 1) := by decide +kernel
theorem dX0_depth_0 : decode cX0_depth 0 = .ok (.iconst 0, 1) := by decide +kernel
theorem dX0_depth_1 : decode cX0_depth 1 = .ok (.istore_n 1, 1) := by decide +kernel
theorem dX0_depth_2 : decode cX0_depth 2 = .ok (.aload_n 0, 1) := by decide +kernel
theorem dX0_depth_3 : decode cX0_depth 3 = .ok (.getfield 23, 3) := by decide +kernel
theorem dX0_depth_6 : decode cX0_depth 6 = .ok (.astore_n 2, 1) := by decide +kernel
theorem dX0_depth_7 : decode cX0_depth 7 = .ok (.aload_n 2, 1) := by decide +kernel
theorem dX0_depth_8 : decode cX0_depth 8 = .ok (.ifnull 14, 3) := by decide +kernel
theorem dX0_depth_11 : decode cX0_depth 11 = .ok (.iinc 1 1, 3) := by decide +kernel
theorem dX0_depth_14 : decode cX0_depth 14 = .ok (.aload_n 2, 1) := by decide +kernel
theorem dX0_depth_15 : decode cX0_depth 15 = .ok (.getfield 23, 3) := by decide +kernel
theorem dX0_depth_18 : decode cX0_depth 18 = .ok (.astore_n 2, 1) := by decide +kernel
theorem dX0_depth_19 : decode cX0_depth 19 = .ok (.goto (-12), 3) := by decide +kernel
theorem dX0_depth_22 : decode cX0_depth 22 = .ok (.iload_n 1, 1) := by decide +kernel
theorem dX0_depth_23 : decode cX0_depth 23 = .ok (.ireturn, 1) := by decide +kernel
set_option maxRecDepth 20000 in
theorem ggX0_hasCrookedCompany_X1_companyOf : GoodIn wsX0_hasCrookedCompany wsX1_companyOf := goodIn_r _ [5, 6, 9, 10, 11, 12, 13] (by decide +kernel) (by decide +kernel)
set_option maxRecDepth 20000 in
theorem gX0_hasCrookedCompany_X1_companyOf_n26 : GoodIn wsX0_hasCrookedCompany (wsX1_companyOf) := ggX0_hasCrookedCompany_X1_companyOf
set_option maxRecDepth 20000 in
theorem ggX0_hasCrookedCompany_X1_isCrooked : GoodIn wsX0_hasCrookedCompany wsX1_isCrooked := goodIn_r _ [8] (by decide +kernel) (by decide +kernel)
set_option maxRecDepth 20000 in
theorem gX0_hasCrookedCompany_X1_isCrooked_n32 : GoodIn wsX0_hasCrookedCompany (wsX1_isCrooked) := ggX0_hasCrookedCompany_X1_isCrooked
theorem dX0_hasCrookedCompany_0 : decode cX0_hasCrookedCompany 0 = .ok (.aload_n 0, 1) := by decide +kernel
theorem dX0_hasCrookedCompany_1 : decode cX0_hasCrookedCompany 1 = .ok (.getfield 16, 3) := by decide +kernel
theorem dX0_hasCrookedCompany_4 : decode cX0_hasCrookedCompany 4 = .ok (.invokestatic 26, 3) := by decide +kernel
theorem dX0_hasCrookedCompany_7 : decode cX0_hasCrookedCompany 7 = .ok (.aload_n 0, 1) := by decide +kernel
theorem dX0_hasCrookedCompany_8 : decode cX0_hasCrookedCompany 8 = .ok (.getfield 20, 3) := by decide +kernel
theorem dX0_hasCrookedCompany_11 : decode cX0_hasCrookedCompany 11 = .ok (.invokestatic 26, 3) := by decide +kernel
theorem dX0_hasCrookedCompany_14 : decode cX0_hasCrookedCompany 14 = .ok (.invokestatic 32, 3) := by decide +kernel
theorem dX0_hasCrookedCompany_17 : decode cX0_hasCrookedCompany 17 = .ok (.ireturn, 1) := by decide +kernel
set_option maxRecDepth 20000 in
theorem ggX0_wouldBeCrookedWith_X1_companyOf : GoodIn wsX0_wouldBeCrookedWith wsX1_companyOf := goodIn_r _ [6, 7, 10, 11, 12, 13, 14] (by decide +kernel) (by decide +kernel)
set_option maxRecDepth 20000 in
theorem gX0_wouldBeCrookedWith_X1_companyOf_n26 : GoodIn wsX0_wouldBeCrookedWith (wsX1_companyOf) := ggX0_wouldBeCrookedWith_X1_companyOf
set_option maxRecDepth 20000 in
theorem ggX0_wouldBeCrookedWith_X1_isCrooked : GoodIn wsX0_wouldBeCrookedWith wsX1_isCrooked := goodIn_r _ [9] (by decide +kernel) (by decide +kernel)
set_option maxRecDepth 20000 in
theorem gX0_wouldBeCrookedWith_X1_isCrooked_n32 : GoodIn wsX0_wouldBeCrookedWith (wsX1_isCrooked) := ggX0_wouldBeCrookedWith_X1_isCrooked
theorem dX0_wouldBeCrookedWith_0 : decode cX0_wouldBeCrookedWith 0 = .ok (.iload_n 1, 1) := by decide +kernel
theorem dX0_wouldBeCrookedWith_1 : decode cX0_wouldBeCrookedWith 1 = .ok (.aload_n 0, 1) := by decide +kernel
theorem dX0_wouldBeCrookedWith_2 : decode cX0_wouldBeCrookedWith 2 = .ok (.getfield 7, 3) := by decide +kernel
theorem dX0_wouldBeCrookedWith_5 : decode cX0_wouldBeCrookedWith 5 = .ok (.if_icmp .ge 7, 3) := by decide +kernel
theorem dX0_wouldBeCrookedWith_8 : decode cX0_wouldBeCrookedWith 8 = .ok (.iconst 1, 1) := by decide +kernel
theorem dX0_wouldBeCrookedWith_9 : decode cX0_wouldBeCrookedWith 9 = .ok (.goto 4, 3) := by decide +kernel
theorem dX0_wouldBeCrookedWith_12 : decode cX0_wouldBeCrookedWith 12 = .ok (.iconst 0, 1) := by decide +kernel
theorem dX0_wouldBeCrookedWith_13 : decode cX0_wouldBeCrookedWith 13 = .ok (.istore_n 2, 1) := by decide +kernel
theorem dX0_wouldBeCrookedWith_14 : decode cX0_wouldBeCrookedWith 14 = .ok (.aload_n 0, 1) := by decide +kernel
theorem dX0_wouldBeCrookedWith_15 : decode cX0_wouldBeCrookedWith 15 = .ok (.getfield 16, 3) := by decide +kernel
theorem dX0_wouldBeCrookedWith_18 : decode cX0_wouldBeCrookedWith 18 = .ok (.invokestatic 26, 3) := by decide +kernel
theorem dX0_wouldBeCrookedWith_21 : decode cX0_wouldBeCrookedWith 21 = .ok (.iload_n 2, 1) := by decide +kernel
theorem dX0_wouldBeCrookedWith_22 : decode cX0_wouldBeCrookedWith 22 = .ok (.iadd, 1) := by decide +kernel
theorem dX0_wouldBeCrookedWith_23 : decode cX0_wouldBeCrookedWith 23 = .ok (.aload_n 0, 1) := by decide +kernel
theorem dX0_wouldBeCrookedWith_24 : decode cX0_wouldBeCrookedWith 24 = .ok (.getfield 20, 3) := by decide +kernel
theorem dX0_wouldBeCrookedWith_27 : decode cX0_wouldBeCrookedWith 27 = .ok (.invokestatic 26, 3) := by decide +kernel
theorem dX0_wouldBeCrookedWith_30 : decode cX0_wouldBeCrookedWith 30 = .ok (.iconst 1, 1) := by decide +kernel
theorem dX0_wouldBeCrookedWith_31 : decode cX0_wouldBeCrookedWith 31 = .ok (.iadd, 1) := by decide +kernel
theorem dX0_wouldBeCrookedWith_32 : decode cX0_wouldBeCrookedWith 32 = .ok (.iload_n 2, 1) := by decide +kernel
theorem dX0_wouldBeCrookedWith_33 : decode cX0_wouldBeCrookedWith 33 = .ok (.isub, 1) := by decide +kernel
theorem dX0_wouldBeCrookedWith_34 : decode cX0_wouldBeCrookedWith 34 = .ok (.invokestatic 32, 3) := by decide +kernel
theorem dX0_wouldBeCrookedWith_37 : decode cX0_wouldBeCrookedWith 37 = .ok (.ireturn, 1) := by decide +kernel
theorem dX1_init_0 : decode cX1_init 0 = .ok (.aload_n 0, 1) := by decide +kernel
theorem dX1_init_1 : decode cX1_init 1 = .ok (.invokespecial 1, 3) := by decide +kernel
theorem dX1_init_4 : decode cX1_init 4 = .ok (.aload_n 0, 1) := by decide +kernel
theorem dX1_init_5 : decode cX1_init 5 = .ok (.sipush 150, 3) := by decide +kernel
theorem dX1_init_8 : decode cX1_init 8 = .ok (.anewarray 9, 3) := by decide +kernel
theorem dX1_init_11 : decode cX1_init 11 = .ok (.putfield 11, 3) := by decide +kernel
theorem dX1_init_14 : decode cX1_init 14 = .ok (.return_, 1) := by decide +kernel
set_option maxRecDepth 20000 in
theorem ggX1_muster_X1_refuseOddHeight : GoodIn wsX1_muster wsX1_refuseOddHeight := goodIn_ca (goodIn_r _ [11, 12, 13] (by decide +kernel) (by decide +kernel)) (goodIn_sub (fun _ h => List.mem_cons_of_mem _ (List.mem_append_right _ h)) (by decide +kernel))
set_option maxRecDepth 20000 in
theorem gX1_muster_X1_refuseOddHeight : GoodIn wsX1_muster (va_wsS RX1 15 yX1_refuseOddHeight wsX1_refuseOddHeight) := goodIn_app (goodIn_of _ (by decide +kernel)) ggX1_muster_X1_refuseOddHeight
set_option maxRecDepth 20000 in
theorem ggX1_muster_X1_find : GoodIn wsX1_muster wsX1_find := goodIn_r _ [17, 18, 19, 20, 21, 22, 6, 23, 24, 25, 26, 99, 100, 101, 102, 103, 104, 105, 106, 107, 108, 109] (by decide +kernel) (by decide +kernel)
set_option maxRecDepth 20000 in
theorem gX1_muster_X1_find : GoodIn wsX1_muster (wsV RX1 23 RX1 yX1_find wsX1_find) := goodIn_app (goodIn_of _ (by decide +kernel)) ggX1_muster_X1_find
set_option maxRecDepth 20000 in
theorem ggX1_muster_X0_init : GoodIn wsX1_muster wsX0_init := goodIn_r _ [29, 30, 31, 32, 24, 33, 105, 106, 107, 108, 109] (by decide +kernel) (by decide +kernel)
set_option maxRecDepth 20000 in
theorem gX1_muster_X0_init : GoodIn wsX1_muster (wsX0_init) := ggX1_muster_X0_init
set_option maxRecDepth 20000 in
theorem ggX1_muster_X1_insertIntoLine : GoodIn wsX1_muster wsX1_insertIntoLine := goodIn_r _ [37, 3, 38, 19, 39, 40, 10, 41, 99, 100, 101, 102, 103, 104, 105, 106, 107, 108, 109] (by decide +kernel) (by decide +kernel)
set_option maxRecDepth 20000 in
theorem gX1_muster_X1_insertIntoLine : GoodIn wsX1_muster (wsV RX1 36 RX1 yX1_insertIntoLine wsX1_insertIntoLine) := goodIn_app (goodIn_of _ (by decide +kernel)) ggX1_muster_X1_insertIntoLine
set_option maxRecDepth 20000 in
theorem ggX1_muster_X1_lastOnTheWayTo : GoodIn wsX1_muster wsX1_lastOnTheWayTo := goodIn_r _ [45, 18, 20, 21, 22, 6, 23, 24, 25, 26, 99, 100, 101, 102, 103, 104, 105, 106, 107, 108, 109] (by decide +kernel) (by decide +kernel)
set_option maxRecDepth 20000 in
theorem gX1_muster_X1_lastOnTheWayTo : GoodIn wsX1_muster (wsV RX1 40 RX1 yX1_lastOnTheWayTo wsX1_lastOnTheWayTo) := goodIn_app (goodIn_of _ (by decide +kernel)) ggX1_muster_X1_lastOnTheWayTo
set_option maxRecDepth 20000 in
theorem ggX1_muster_X1_standBelow : GoodIn wsX1_muster wsX1_standBelow := goodIn_r _ [49, 18, 50, 51, 52, 53, 6, 54, 24, 25, 26, 55, 99, 100, 101, 102, 103, 104, 105, 106, 107, 108, 109] (by decide +kernel) (by decide +kernel)
set_option maxRecDepth 20000 in
theorem gX1_muster_X1_standBelow : GoodIn wsX1_muster (wsV RX1 43 RX1 yX1_standBelow wsX1_standBelow) := goodIn_app (goodIn_of _ (by decide +kernel)) ggX1_muster_X1_standBelow
set_option maxRecDepth 20000 in
theorem ggX1_muster_X1_addToCompaniesAbove : GoodIn wsX1_muster wsX1_addToCompaniesAbove := goodIn_r _ [58, 50, 59, 105, 106, 107, 108, 109] (by decide +kernel) (by decide +kernel)
set_option maxRecDepth 20000 in
theorem gX1_muster_X1_addToCompaniesAbove : GoodIn wsX1_muster (va_wsS RX1 47 yX1_addToCompaniesAbove wsX1_addToCompaniesAbove) := goodIn_app (goodIn_of _ (by decide +kernel)) ggX1_muster_X1_addToCompaniesAbove
set_option maxRecDepth 20000 in
theorem ggX1_muster_X0_depth : GoodIn wsX1_muster wsX0_depth := goodIn_r _ [63, 55, 105, 106, 107, 108, 109] (by decide +kernel) (by decide +kernel)
set_option maxRecDepth 20000 in
theorem gX1_muster_X0_depth : GoodIn wsX1_muster (wsV RX1 54 RX0 yX0_depth wsX0_depth) := goodIn_app (goodIn_of _ (by decide +kernel)) ggX1_muster_X0_depth
set_option maxRecDepth 20000 in
theorem ggX1_muster_X1_allowedDepth : GoodIn wsX1_muster wsX1_allowedDepth := goodIn_r _ [66, 67, 68] (by decide +kernel) (by decide +kernel)
set_option maxRecDepth 20000 in
theorem gX1_muster_X1_allowedDepth : GoodIn wsX1_muster (va_wsS RX1 58 yX1_allowedDepth wsX1_allowedDepth) := goodIn_app (goodIn_of _ (by decide +kernel)) ggX1_muster_X1_allowedDepth
set_option maxRecDepth 20000 in
theorem ggX1_muster_X1_firstCrookedFrom : GoodIn wsX1_muster wsX1_firstCrookedFrom := goodIn_r _ [71, 50, 72, 73, 74, 6, 75, 25, 26, 76, 10, 77, 59, 78, 79, 105, 106, 107, 108, 109] (by decide +kernel) (by decide +kernel)
set_option maxRecDepth 20000 in
theorem gX1_muster_X1_firstCrookedFrom : GoodIn wsX1_muster (va_wsS RX1 62 yX1_firstCrookedFrom wsX1_firstCrookedFrom) := goodIn_app (goodIn_of _ (by decide +kernel)) ggX1_muster_X1_firstCrookedFrom
set_option maxRecDepth 20000 in
theorem ggX1_muster_X1_drawUp : GoodIn wsX1_muster wsX1_drawUp := goodIn_r _ [83, 50, 19, 59, 84, 38, 85, 86, 3, 7, 87, 88, 89, 10, 90, 18, 91, 76, 77, 20, 21, 22, 6, 23, 24, 25, 26, 92, 93, 94, 95, 96, 97, 98, 51, 52, 53, 54, 55, 46, 47, 48, 49, 105, 106, 107, 108, 109, 99, 100, 101, 102, 103, 104] (by decide +kernel) (by decide +kernel)
set_option maxRecDepth 20000 in
theorem gX1_muster_X1_drawUp : GoodIn wsX1_muster (wsV RX1 66 RX1 yX1_drawUp wsX1_drawUp) := goodIn_app (goodIn_of _ (by decide +kernel)) ggX1_muster_X1_drawUp
theorem dX1_muster_0 : decode cX1_muster 0 = .ok (.iload_n 1, 1) := by decide +kernel
theorem dX1_muster_1 : decode cX1_muster 1 = .ok (.invokestatic 15, 3) := by decide +kernel
theorem dX1_muster_4 : decode cX1_muster 4 = .ok (.aload_n 0, 1) := by decide +kernel
theorem dX1_muster_5 : decode cX1_muster 5 = .ok (.getfield 19, 3) := by decide +kernel
theorem dX1_muster_8 : decode cX1_muster 8 = .ok (.sipush 150, 3) := by decide +kernel
theorem dX1_muster_11 : decode cX1_muster 11 = .ok (.if_icmp .ge 11, 3) := by decide +kernel
theorem dX1_muster_14 : decode cX1_muster 14 = .ok (.aload_n 0, 1) := by decide +kernel
theorem dX1_muster_15 : decode cX1_muster 15 = .ok (.iload_n 1, 1) := by decide +kernel
theorem dX1_muster_16 : decode cX1_muster 16 = .ok (.invokevirtual 23, 3) := by decide +kernel
theorem dX1_muster_19 : decode cX1_muster 19 = .ok (.ifnull 13, 3) := by decide +kernel
theorem dX1_muster_22 : decode cX1_muster 22 = .ok (.new 27, 3) := by decide +kernel
theorem dX1_muster_25 : decode cX1_muster 25 = .ok (.dup, 1) := by decide +kernel
theorem dX1_muster_26 : decode cX1_muster 26 = .ok (.ldc 29, 2) := by decide +kernel
theorem dX1_muster_28 : decode cX1_muster 28 = .ok (.invokespecial 31, 3) := by decide +kernel
theorem dX1_muster_31 : decode cX1_muster 31 = .ok (.athrow, 1) := by decide +kernel
theorem dX1_muster_32 : decode cX1_muster 32 = .ok (.new 9, 3) := by decide +kernel
theorem dX1_muster_35 : decode cX1_muster 35 = .ok (.dup, 1) := by decide +kernel
theorem dX1_muster_36 : decode cX1_muster 36 = .ok (.iload_n 1, 1) := by decide +kernel
theorem dX1_muster_37 : decode cX1_muster 37 = .ok (.invokespecial 34, 3) := by decide +kernel
theorem dX1_muster_40 : decode cX1_muster 40 = .ok (.astore_n 2, 1) := by decide +kernel
theorem dX1_muster_41 : decode cX1_muster 41 = .ok (.aload_n 0, 1) := by decide +kernel
theorem dX1_muster_42 : decode cX1_muster 42 = .ok (.aload_n 2, 1) := by decide +kernel
theorem dX1_muster_43 : decode cX1_muster 43 = .ok (.invokevirtual 36, 3) := by decide +kernel
theorem dX1_muster_46 : decode cX1_muster 46 = .ok (.aload_n 0, 1) := by decide +kernel
theorem dX1_muster_47 : decode cX1_muster 47 = .ok (.aload_n 0, 1) := by decide +kernel
theorem dX1_muster_48 : decode cX1_muster 48 = .ok (.iload_n 1, 1) := by decide +kernel
theorem dX1_muster_49 : decode cX1_muster 49 = .ok (.invokevirtual 40, 3) := by decide +kernel
theorem dX1_muster_52 : decode cX1_muster 52 = .ok (.iload_n 1, 1) := by decide +kernel
theorem dX1_muster_53 : decode cX1_muster 53 = .ok (.aload_n 2, 1) := by decide +kernel
theorem dX1_muster_54 : decode cX1_muster 54 = .ok (.invokevirtual 43, 3) := by decide +kernel
theorem dX1_muster_57 : decode cX1_muster 57 = .ok (.aload_n 2, 1) := by decide +kernel
theorem dX1_muster_58 : decode cX1_muster 58 = .ok (.iconst 1, 1) := by decide +kernel
theorem dX1_muster_59 : decode cX1_muster 59 = .ok (.invokestatic 47, 3) := by decide +kernel
theorem dX1_muster_62 : decode cX1_muster 62 = .ok (.aload_n 0, 1) := by decide +kernel
theorem dX1_muster_63 : decode cX1_muster 63 = .ok (.getfield 19, 3) := by decide +kernel
theorem dX1_muster_66 : decode cX1_muster 66 = .ok (.aload_n 0, 1) := by decide +kernel
theorem dX1_muster_67 : decode cX1_muster 67 = .ok (.getfield 51, 3) := by decide +kernel
theorem dX1_muster_70 : decode cX1_muster 70 = .ok (.if_icmp .le 11, 3) := by decide +kernel
theorem dX1_muster_73 : decode cX1_muster 73 = .ok (.aload_n 0, 1) := by decide +kernel
theorem dX1_muster_74 : decode cX1_muster 74 = .ok (.aload_n 0, 1) := by decide +kernel
theorem dX1_muster_75 : decode cX1_muster 75 = .ok (.getfield 19, 3) := by decide +kernel
theorem dX1_muster_78 : decode cX1_muster 78 = .ok (.putfield 51, 3) := by decide +kernel
theorem dX1_muster_81 : decode cX1_muster 81 = .ok (.aload_n 2, 1) := by decide +kernel
theorem dX1_muster_82 : decode cX1_muster 82 = .ok (.invokevirtual 54, 3) := by decide +kernel
theorem dX1_muster_85 : decode cX1_muster 85 = .ok (.aload_n 0, 1) := by decide +kernel
theorem dX1_muster_86 : decode cX1_muster 86 = .ok (.getfield 19, 3) := by decide +kernel
theorem dX1_muster_89 : decode cX1_muster 89 = .ok (.invokestatic 58, 3) := by decide +kernel
theorem dX1_muster_92 : decode cX1_muster 92 = .ok (.if_icmp .le 12, 3) := by decide +kernel
theorem dX1_muster_95 : decode cX1_muster 95 = .ok (.aload_n 0, 1) := by decide +kernel
theorem dX1_muster_96 : decode cX1_muster 96 = .ok (.aload_n 2, 1) := by decide +kernel
theorem dX1_muster_97 : decode cX1_muster 97 = .ok (.invokestatic 62, 3) := by decide +kernel
theorem dX1_muster_100 : decode cX1_muster 100 = .ok (.invokevirtual 66, 3) := by decide +kernel
theorem dX1_muster_103 : decode cX1_muster 103 = .ok (.pop, 1) := by decide +kernel
theorem dX1_muster_104 : decode cX1_muster 104 = .ok (.aload_n 2, 1) := by decide +kernel
theorem dX1_muster_105 : decode cX1_muster 105 = .ok (.invokevirtual 54, 3) := by decide +kernel
theorem dX1_muster_108 : decode cX1_muster 108 = .ok (.ireturn, 1) := by decide +kernel
set_option maxRecDepth 20000 in
theorem ggX1_discharge_X1_refuseOddHeight : GoodIn wsX1_discharge wsX1_refuseOddHeight := goodIn_ca (goodIn_r _ [9, 10, 11] (by decide +kernel) (by decide +kernel)) (goodIn_sub (fun _ h => List.mem_cons_of_mem _ (List.mem_append_right _ h)) (by decide +kernel))
set_option maxRecDepth 20000 in
theorem gX1_discharge_X1_refuseOddHeight : GoodIn wsX1_discharge (va_wsS RX1 15 yX1_refuseOddHeight wsX1_refuseOddHeight) := goodIn_app (goodIn_of _ (by decide +kernel)) ggX1_discharge_X1_refuseOddHeight
set_option maxRecDepth 20000 in
theorem ggX1_discharge_X1_find : GoodIn wsX1_discharge wsX1_find := goodIn_r _ [15, 5, 16, 17, 18, 19, 20, 21, 22, 23, 24, 73, 74, 75, 76, 77, 78, 79, 80, 81, 82, 83] (by decide +kernel) (by decide +kernel)
set_option maxRecDepth 20000 in
theorem gX1_discharge_X1_find : GoodIn wsX1_discharge (wsV RX1 23 RX1 yX1_find wsX1_find) := goodIn_app (goodIn_of _ (by decide +kernel)) ggX1_discharge_X1_find
set_option maxRecDepth 20000 in
theorem ggX1_discharge_X1_removeFromLine : GoodIn wsX1_discharge wsX1_removeFromLine := goodIn_r _ [28, 16, 3, 29, 30, 31, 32, 8, 33, 5, 34, 35, 36, 37, 38, 17, 18, 19, 20, 21, 22, 23, 24, 79, 80, 81, 82, 83, 73, 74, 75, 76, 77, 78] (by decide +kernel) (by decide +kernel)
set_option maxRecDepth 20000 in
theorem gX1_discharge_X1_removeFromLine : GoodIn wsX1_discharge (wsV RX1 71 RX1 yX1_removeFromLine wsX1_removeFromLine) := goodIn_app (goodIn_of _ (by decide +kernel)) ggX1_discharge_X1_removeFromLine
set_option maxRecDepth 20000 in
theorem ggX1_discharge_X1_removeFromRanks : GoodIn wsX1_discharge wsX1_removeFromRanks := goodIn_r _ [42, 34, 43, 38, 44, 16, 45, 46, 47, 8, 48, 49, 50, 51, 52, 53, 54, 55, 5, 56, 57, 58, 20, 59, 22, 23, 24, 60, 61, 62, 63, 79, 80, 81, 82, 83, 73, 74, 75, 76, 77, 78] (by decide +kernel) (by decide +kernel)
set_option maxRecDepth 20000 in
theorem gX1_discharge_X1_removeFromRanks : GoodIn wsX1_discharge (wsV RX1 74 RX1 yX1_removeFromRanks wsX1_removeFromRanks) := goodIn_app (goodIn_of _ (by decide +kernel)) ggX1_discharge_X1_removeFromRanks
set_option maxRecDepth 20000 in
theorem ggX1_discharge_X1_drawUp : GoodIn wsX1_discharge wsX1_drawUp := goodIn_r _ [67, 44, 16, 38, 34, 29, 68, 69, 3, 4, 30, 31, 32, 8, 33, 5, 35, 36, 37, 17, 18, 19, 20, 21, 22, 23, 24, 70, 71, 72, 43, 61, 62, 63, 56, 57, 58, 59, 60, 52, 53, 54, 55, 79, 80, 81, 82, 83, 73, 74, 75, 76, 77, 78] (by decide +kernel) (by decide +kernel)
set_option maxRecDepth 20000 in
theorem gX1_discharge_X1_drawUp : GoodIn wsX1_discharge (wsV RX1 66 RX1 yX1_drawUp wsX1_drawUp) := goodIn_app (goodIn_of _ (by decide +kernel)) ggX1_discharge_X1_drawUp
theorem dX1_discharge_0 : decode cX1_discharge 0 = .ok (.iload_n 1, 1) := by decide +kernel
theorem dX1_discharge_1 : decode cX1_discharge 1 = .ok (.invokestatic 15, 3) := by decide +kernel
theorem dX1_discharge_4 : decode cX1_discharge 4 = .ok (.aload_n 0, 1) := by decide +kernel
theorem dX1_discharge_5 : decode cX1_discharge 5 = .ok (.iload_n 1, 1) := by decide +kernel
theorem dX1_discharge_6 : decode cX1_discharge 6 = .ok (.invokevirtual 23, 3) := by decide +kernel
theorem dX1_discharge_9 : decode cX1_discharge 9 = .ok (.astore_n 2, 1) := by decide +kernel
theorem dX1_discharge_10 : decode cX1_discharge 10 = .ok (.aload_n 2, 1) := by decide +kernel
theorem dX1_discharge_11 : decode cX1_discharge 11 = .ok (.ifnonnull 13, 3) := by decide +kernel
theorem dX1_discharge_14 : decode cX1_discharge 14 = .ok (.new 27, 3) := by decide +kernel
theorem dX1_discharge_17 : decode cX1_discharge 17 = .ok (.dup, 1) := by decide +kernel
theorem dX1_discharge_18 : decode cX1_discharge 18 = .ok (.ldc 69, 2) := by decide +kernel
theorem dX1_discharge_20 : decode cX1_discharge 20 = .ok (.invokespecial 31, 3) := by decide +kernel
theorem dX1_discharge_23 : decode cX1_discharge 23 = .ok (.athrow, 1) := by decide +kernel
theorem dX1_discharge_24 : decode cX1_discharge 24 = .ok (.aload_n 0, 1) := by decide +kernel
theorem dX1_discharge_25 : decode cX1_discharge 25 = .ok (.aload_n 2, 1) := by decide +kernel
theorem dX1_discharge_26 : decode cX1_discharge 26 = .ok (.invokevirtual 71, 3) := by decide +kernel
theorem dX1_discharge_29 : decode cX1_discharge 29 = .ok (.aload_n 0, 1) := by decide +kernel
theorem dX1_discharge_30 : decode cX1_discharge 30 = .ok (.aload_n 2, 1) := by decide +kernel
theorem dX1_discharge_31 : decode cX1_discharge 31 = .ok (.invokevirtual 74, 3) := by decide +kernel
theorem dX1_discharge_34 : decode cX1_discharge 34 = .ok (.aload_n 0, 1) := by decide +kernel
theorem dX1_discharge_35 : decode cX1_discharge 35 = .ok (.getfield 19, 3) := by decide +kernel
theorem dX1_discharge_38 : decode cX1_discharge 38 = .ok (.ifCond .ne 10, 3) := by decide +kernel
theorem dX1_discharge_41 : decode cX1_discharge 41 = .ok (.aload_n 0, 1) := by decide +kernel
theorem dX1_discharge_42 : decode cX1_discharge 42 = .ok (.iconst 0, 1) := by decide +kernel
theorem dX1_discharge_43 : decode cX1_discharge 43 = .ok (.putfield 51, 3) := by decide +kernel
theorem dX1_discharge_46 : decode cX1_discharge 46 = .ok (.iconst 0, 1) := by decide +kernel
theorem dX1_discharge_47 : decode cX1_discharge 47 = .ok (.ireturn, 1) := by decide +kernel
theorem dX1_discharge_48 : decode cX1_discharge 48 = .ok (.iconst 3, 1) := by decide +kernel
theorem dX1_discharge_49 : decode cX1_discharge 49 = .ok (.aload_n 0, 1) := by decide +kernel
theorem dX1_discharge_50 : decode cX1_discharge 50 = .ok (.getfield 19, 3) := by decide +kernel
theorem dX1_discharge_53 : decode cX1_discharge 53 = .ok (.imul, 1) := by decide +kernel
theorem dX1_discharge_54 : decode cX1_discharge 54 = .ok (.iconst 2, 1) := by decide +kernel
theorem dX1_discharge_55 : decode cX1_discharge 55 = .ok (.aload_n 0, 1) := by decide +kernel
theorem dX1_discharge_56 : decode cX1_discharge 56 = .ok (.getfield 51, 3) := by decide +kernel
theorem dX1_discharge_59 : decode cX1_discharge 59 = .ok (.imul, 1) := by decide +kernel
theorem dX1_discharge_60 : decode cX1_discharge 60 = .ok (.if_icmp .ge 14, 3) := by decide +kernel
theorem dX1_discharge_63 : decode cX1_discharge 63 = .ok (.aload_n 0, 1) := by decide +kernel
theorem dX1_discharge_64 : decode cX1_discharge 64 = .ok (.aload_n 0, 1) := by decide +kernel
theorem dX1_discharge_65 : decode cX1_discharge 65 = .ok (.getfield 77, 3) := by decide +kernel
theorem dX1_discharge_68 : decode cX1_discharge 68 = .ok (.invokevirtual 66, 3) := by decide +kernel
theorem dX1_discharge_71 : decode cX1_discharge 71 = .ok (.pop, 1) := by decide +kernel
theorem dX1_discharge_72 : decode cX1_discharge 72 = .ok (.iconst 1, 1) := by decide +kernel
theorem dX1_discharge_73 : decode cX1_discharge 73 = .ok (.ireturn, 1) := by decide +kernel
theorem dX1_discharge_74 : decode cX1_discharge 74 = .ok (.iconst 0, 1) := by decide +kernel
theorem dX1_discharge_75 : decode cX1_discharge 75 = .ok (.ireturn, 1) := by decide +kernel
set_option maxRecDepth 20000 in
theorem ggX1_draw_X1_refuseOddHeight : GoodIn wsX1_draw wsX1_refuseOddHeight := goodIn_ca (goodIn_r _ [6, 7, 8] (by decide +kernel) (by decide +kernel)) (goodIn_sub (fun _ h => List.mem_cons_of_mem _ (List.mem_append_right _ h)) (by decide +kernel))
set_option maxRecDepth 20000 in
theorem gX1_draw_X1_refuseOddHeight : GoodIn wsX1_draw (va_wsS RX1 15 yX1_refuseOddHeight wsX1_refuseOddHeight) := goodIn_app (goodIn_of _ (by decide +kernel)) ggX1_draw_X1_refuseOddHeight
set_option maxRecDepth 20000 in
theorem ggX1_draw_X1_find : GoodIn wsX1_draw wsX1_find := goodIn_r _ [12, 13, 14, 15, 16, 17, 18, 19, 20, 21, 22, 61, 62, 63, 64, 65, 66, 67, 68, 69, 70, 71] (by decide +kernel) (by decide +kernel)
set_option maxRecDepth 20000 in
theorem gX1_draw_X1_find : GoodIn wsX1_draw (wsV RX1 23 RX1 yX1_find wsX1_find) := goodIn_app (goodIn_of _ (by decide +kernel)) ggX1_draw_X1_find
set_option maxRecDepth 20000 in
theorem ggX1_draw_X1_drawUp : GoodIn wsX1_draw wsX1_drawUp := goodIn_r _ [26, 27, 14, 28, 29, 30, 31, 32, 33, 34, 35, 36, 37, 5, 38, 13, 39, 40, 41, 15, 16, 17, 18, 19, 20, 21, 22, 42, 43, 44, 45, 46, 47, 48, 49, 50, 51, 52, 53, 54, 55, 56, 57, 67, 68, 69, 70, 71, 61, 62, 63, 64, 65, 66] (by decide +kernel) (by decide +kernel)
set_option maxRecDepth 20000 in
theorem gX1_draw_X1_drawUp : GoodIn wsX1_draw (wsV RX1 66 RX1 yX1_drawUp wsX1_drawUp) := goodIn_app (goodIn_of _ (by decide +kernel)) ggX1_draw_X1_drawUp
set_option maxRecDepth 20000 in
theorem ggX1_draw_X1_heightOf : GoodIn wsX1_draw wsX1_heightOf := goodIn_r _ [60, 14, 67, 68, 69, 70, 71] (by decide +kernel) (by decide +kernel)
set_option maxRecDepth 20000 in
theorem gX1_draw_X1_heightOf : GoodIn wsX1_draw (va_wsS RX1 81 yX1_heightOf wsX1_heightOf) := goodIn_app (goodIn_of _ (by decide +kernel)) ggX1_draw_X1_heightOf
theorem dX1_draw_0 : decode cX1_draw 0 = .ok (.iload_n 1, 1) := by decide +kernel
theorem dX1_draw_1 : decode cX1_draw 1 = .ok (.invokestatic 15, 3) := by decide +kernel
theorem dX1_draw_4 : decode cX1_draw 4 = .ok (.aload_n 0, 1) := by decide +kernel
theorem dX1_draw_5 : decode cX1_draw 5 = .ok (.iload_n 1, 1) := by decide +kernel
theorem dX1_draw_6 : decode cX1_draw 6 = .ok (.invokevirtual 23, 3) := by decide +kernel
theorem dX1_draw_9 : decode cX1_draw 9 = .ok (.astore_n 2, 1) := by decide +kernel
theorem dX1_draw_10 : decode cX1_draw 10 = .ok (.aload_n 2, 1) := by decide +kernel
theorem dX1_draw_11 : decode cX1_draw 11 = .ok (.ifnonnull 13, 3) := by decide +kernel
theorem dX1_draw_14 : decode cX1_draw 14 = .ok (.new 27, 3) := by decide +kernel
theorem dX1_draw_17 : decode cX1_draw 17 = .ok (.dup, 1) := by decide +kernel
theorem dX1_draw_18 : decode cX1_draw 18 = .ok (.ldc 69, 2) := by decide +kernel
theorem dX1_draw_20 : decode cX1_draw 20 = .ok (.invokespecial 31, 3) := by decide +kernel
theorem dX1_draw_23 : decode cX1_draw 23 = .ok (.athrow, 1) := by decide +kernel
theorem dX1_draw_24 : decode cX1_draw 24 = .ok (.aload_n 0, 1) := by decide +kernel
theorem dX1_draw_25 : decode cX1_draw 25 = .ok (.aload_n 2, 1) := by decide +kernel
theorem dX1_draw_26 : decode cX1_draw 26 = .ok (.invokevirtual 66, 3) := by decide +kernel
theorem dX1_draw_29 : decode cX1_draw 29 = .ok (.invokestatic 81, 3) := by decide +kernel
theorem dX1_draw_32 : decode cX1_draw 32 = .ok (.ireturn, 1) := by decide +kernel
set_option maxRecDepth 20000 in
theorem ggX1_isThere_X1_refuseOddHeight : GoodIn wsX1_isThere wsX1_refuseOddHeight := goodIn_ca (goodIn_r _ [4, 5, 6] (by decide +kernel) (by decide +kernel)) (goodIn_sub (fun _ h => List.mem_cons_of_mem _ (List.mem_append_right _ h)) (by decide +kernel))
set_option maxRecDepth 20000 in
theorem gX1_isThere_X1_refuseOddHeight : GoodIn wsX1_isThere (va_wsS RX1 15 yX1_refuseOddHeight wsX1_refuseOddHeight) := goodIn_app (goodIn_of _ (by decide +kernel)) ggX1_isThere_X1_refuseOddHeight
set_option maxRecDepth 20000 in
theorem ggX1_isThere_X1_find : GoodIn wsX1_isThere wsX1_find := goodIn_r _ [10, 11, 12, 13, 14, 15, 16, 17, 18, 19, 20, 21, 22, 23, 24, 25, 26, 27, 28, 29, 30, 31] (by decide +kernel) (by decide +kernel)
set_option maxRecDepth 20000 in
theorem gX1_isThere_X1_find : GoodIn wsX1_isThere (wsV RX1 23 RX1 yX1_find wsX1_find) := goodIn_app (goodIn_of _ (by decide +kernel)) ggX1_isThere_X1_find
theorem dX1_isThere_0 : decode cX1_isThere 0 = .ok (.iload_n 1, 1) := by decide +kernel
theorem dX1_isThere_1 : decode cX1_isThere 1 = .ok (.invokestatic 15, 3) := by decide +kernel
theorem dX1_isThere_4 : decode cX1_isThere 4 = .ok (.aload_n 0, 1) := by decide +kernel
theorem dX1_isThere_5 : decode cX1_isThere 5 = .ok (.iload_n 1, 1) := by decide +kernel
theorem dX1_isThere_6 : decode cX1_isThere 6 = .ok (.invokevirtual 23, 3) := by decide +kernel
theorem dX1_isThere_9 : decode cX1_isThere 9 = .ok (.ifnull 7, 3) := by decide +kernel
theorem dX1_isThere_12 : decode cX1_isThere 12 = .ok (.iconst 1, 1) := by decide +kernel
theorem dX1_isThere_13 : decode cX1_isThere 13 = .ok (.goto 4, 3) := by decide +kernel
theorem dX1_isThere_16 : decode cX1_isThere 16 = .ok (.iconst 0, 1) := by decide +kernel
theorem dX1_isThere_17 : decode cX1_isThere 17 = .ok (.ireturn, 1) := by decide +kernel
set_option maxRecDepth 20000 in
theorem ggX1_told_X1_refuseOddHeight : GoodIn wsX1_told wsX1_refuseOddHeight := goodIn_ca (goodIn_r _ [6, 7, 8] (by decide +kernel) (by decide +kernel)) (goodIn_sub (fun _ h => List.mem_cons_of_mem _ (List.mem_append_left _ (List.mem_append_right _ h))) (by decide +kernel))
set_option maxRecDepth 20000 in
theorem gX1_told_X1_refuseOddHeight : GoodIn wsX1_told (va_wsS RX1 15 yX1_refuseOddHeight wsX1_refuseOddHeight) := goodIn_app (goodIn_of _ (by decide +kernel)) ggX1_told_X1_refuseOddHeight
set_option maxRecDepth 20000 in
theorem ggX1_told_X1_refuseOddQuestion : GoodIn wsX1_told wsX1_refuseOddQuestion := goodIn_ca (goodIn_r _ [11, 12, 13] (by decide +kernel) (by decide +kernel)) (goodIn_sub (fun _ h => List.mem_cons_of_mem _ (List.mem_append_right _ h)) (by decide +kernel))
set_option maxRecDepth 20000 in
theorem gX1_told_X1_refuseOddQuestion : GoodIn wsX1_told (va_wsS RX1 85 yX1_refuseOddQuestion wsX1_refuseOddQuestion) := goodIn_app (goodIn_of _ (by decide +kernel)) ggX1_told_X1_refuseOddQuestion
set_option maxRecDepth 20000 in
theorem ggX1_told_X1_find : GoodIn wsX1_told wsX1_find := goodIn_r _ [17, 18, 19, 20, 21, 22, 23, 24, 25, 26, 27, 74, 75, 76, 77, 78, 79, 80, 81, 82, 83, 84] (by decide +kernel) (by decide +kernel)
set_option maxRecDepth 20000 in
theorem gX1_told_X1_find : GoodIn wsX1_told (wsV RX1 23 RX1 yX1_find wsX1_find) := goodIn_app (goodIn_of _ (by decide +kernel)) ggX1_told_X1_find
set_option maxRecDepth 20000 in
theorem ggX1_told_X1_tell : GoodIn wsX1_told wsX1_tell := goodIn_r _ [31, 32, 33, 34, 35, 19, 36, 37, 38, 23, 39, 40, 41, 42, 5, 43, 44, 45, 46, 47, 48, 49, 50, 51, 52, 53, 54, 55, 18, 56, 57, 58, 20, 21, 22, 24, 25, 26, 27, 59, 60, 61, 62, 63, 64, 65, 66, 67, 68, 69, 70, 71, 72, 73, 80, 81, 82, 83, 84, 74, 75, 76, 77, 78, 79] (by decide +kernel) (by decide +kernel)
set_option maxRecDepth 20000 in
theorem gX1_told_X1_tell : GoodIn wsX1_told (wsV RX1 88 RX1 yX1_tell wsX1_tell) := goodIn_app (goodIn_of _ (by decide +kernel)) ggX1_told_X1_tell
theorem dX1_told_0 : decode cX1_told 0 = .ok (.iload_n 1, 1) := by decide +kernel
theorem dX1_told_1 : decode cX1_told 1 = .ok (.invokestatic 15, 3) := by decide +kernel
theorem dX1_told_4 : decode cX1_told 4 = .ok (.iload_n 2, 1) := by decide +kernel
theorem dX1_told_5 : decode cX1_told 5 = .ok (.invokestatic 85, 3) := by decide +kernel
theorem dX1_told_8 : decode cX1_told 8 = .ok (.aload_n 0, 1) := by decide +kernel
theorem dX1_told_9 : decode cX1_told 9 = .ok (.iload_n 1, 1) := by decide +kernel
theorem dX1_told_10 : decode cX1_told 10 = .ok (.invokevirtual 23, 3) := by decide +kernel
theorem dX1_told_13 : decode cX1_told 13 = .ok (.astore_n 3, 1) := by decide +kernel
theorem dX1_told_14 : decode cX1_told 14 = .ok (.aload_n 3, 1) := by decide +kernel
theorem dX1_told_15 : decode cX1_told 15 = .ok (.ifnonnull 13, 3) := by decide +kernel
theorem dX1_told_18 : decode cX1_told 18 = .ok (.new 27, 3) := by decide +kernel
theorem dX1_told_21 : decode cX1_told 21 = .ok (.dup, 1) := by decide +kernel
theorem dX1_told_22 : decode cX1_told 22 = .ok (.ldc 69, 2) := by decide +kernel
theorem dX1_told_24 : decode cX1_told 24 = .ok (.invokespecial 31, 3) := by decide +kernel
theorem dX1_told_27 : decode cX1_told 27 = .ok (.athrow, 1) := by decide +kernel
theorem dX1_told_28 : decode cX1_told 28 = .ok (.aload_n 0, 1) := by decide +kernel
theorem dX1_told_29 : decode cX1_told 29 = .ok (.aload_n 3, 1) := by decide +kernel
theorem dX1_told_30 : decode cX1_told 30 = .ok (.iload_n 2, 1) := by decide +kernel
theorem dX1_told_31 : decode cX1_told 31 = .ok (.invokevirtual 88, 3) := by decide +kernel
theorem dX1_told_34 : decode cX1_told 34 = .ok (.ireturn, 1) := by decide +kernel
set_option maxRecDepth 20000 in
theorem ggX1_at_X1_inLine : GoodIn wsX1_at wsX1_inLine := goodIn_r _ [8, 9, 10, 16, 17, 18, 19, 20, 21] (by decide +kernel) (by decide +kernel)
set_option maxRecDepth 20000 in
theorem gX1_at_X1_inLine : GoodIn wsX1_at (wsV RX1 92 RX1 yX1_inLine wsX1_inLine) := goodIn_app (goodIn_of _ (by decide +kernel)) ggX1_at_X1_inLine
theorem dX1_at_0 : decode cX1_at 0 = .ok (.aload_n 0, 1) := by decide +kernel
theorem dX1_at_1 : decode cX1_at 1 = .ok (.iload_n 1, 1) := by decide +kernel
theorem dX1_at_2 : decode cX1_at 2 = .ok (.invokevirtual 92, 3) := by decide +kernel
theorem dX1_at_5 : decode cX1_at 5 = .ok (.astore_n 2, 1) := by decide +kernel
theorem dX1_at_6 : decode cX1_at 6 = .ok (.aload_n 2, 1) := by decide +kernel
theorem dX1_at_7 : decode cX1_at 7 = .ok (.ifnonnull 13, 3) := by decide +kernel
theorem dX1_at_10 : decode cX1_at 10 = .ok (.new 95, 3) := by decide +kernel
theorem dX1_at_13 : decode cX1_at 13 = .ok (.dup, 1) := by decide +kernel
theorem dX1_at_14 : decode cX1_at 14 = .ok (.ldc 97, 2) := by decide +kernel
theorem dX1_at_16 : decode cX1_at 16 = .ok (.invokespecial 99, 3) := by decide +kernel
theorem dX1_at_19 : decode cX1_at 19 = .ok (.athrow, 1) := by decide +kernel
theorem dX1_at_20 : decode cX1_at 20 = .ok (.aload_n 2, 1) := by decide +kernel
theorem dX1_at_21 : decode cX1_at 21 = .ok (.getfield 100, 3) := by decide +kernel
theorem dX1_at_24 : decode cX1_at 24 = .ok (.ireturn, 1) := by decide +kernel
set_option maxRecDepth 20000 in
theorem ggX1_between_X1_refuseOddHeight : GoodIn wsX1_between wsX1_refuseOddHeight := goodIn_ca (goodIn_r _ [4, 5, 6] (by decide +kernel) (by decide +kernel)) (goodIn_sub (fun _ h => List.mem_cons_of_mem _ (List.mem_append_right _ h)) (by decide +kernel))
set_option maxRecDepth 20000 in
theorem gX1_between_X1_refuseOddHeight : GoodIn wsX1_between (va_wsS RX1 15 yX1_refuseOddHeight wsX1_refuseOddHeight) := goodIn_app (goodIn_of _ (by decide +kernel)) ggX1_between_X1_refuseOddHeight
set_option maxRecDepth 20000 in
theorem ggX1_between_X1_smallerThan : GoodIn wsX1_between wsX1_smallerThan := goodIn_r _ [10, 11, 12, 13, 14, 15, 3, 16, 17, 18, 19, 20, 21, 22, 23, 24, 25, 26, 27, 28, 29, 30, 31, 32, 33, 34, 35, 36] (by decide +kernel) (by decide +kernel)
set_option maxRecDepth 20000 in
theorem gX1_between_X1_smallerThan : GoodIn wsX1_between (wsV RX1 103 RX1 yX1_smallerThan wsX1_smallerThan) := goodIn_app (goodIn_of _ (by decide +kernel)) ggX1_between_X1_smallerThan
theorem dX1_between_0 : decode cX1_between 0 = .ok (.iload_n 1, 1) := by decide +kernel
theorem dX1_between_1 : decode cX1_between 1 = .ok (.invokestatic 15, 3) := by decide +kernel
theorem dX1_between_4 : decode cX1_between 4 = .ok (.iload_n 2, 1) := by decide +kernel
theorem dX1_between_5 : decode cX1_between 5 = .ok (.invokestatic 15, 3) := by decide +kernel
theorem dX1_between_8 : decode cX1_between 8 = .ok (.iload_n 1, 1) := by decide +kernel
theorem dX1_between_9 : decode cX1_between 9 = .ok (.iload_n 2, 1) := by decide +kernel
theorem dX1_between_10 : decode cX1_between 10 = .ok (.if_icmp .le 5, 3) := by decide +kernel
theorem dX1_between_13 : decode cX1_between 13 = .ok (.iconst 0, 1) := by decide +kernel
theorem dX1_between_14 : decode cX1_between 14 = .ok (.ireturn, 1) := by decide +kernel
theorem dX1_between_15 : decode cX1_between 15 = .ok (.aload_n 0, 1) := by decide +kernel
theorem dX1_between_16 : decode cX1_between 16 = .ok (.iload_n 2, 1) := by decide +kernel
theorem dX1_between_17 : decode cX1_between 17 = .ok (.iconst 1, 1) := by decide +kernel
theorem dX1_between_18 : decode cX1_between 18 = .ok (.iadd, 1) := by decide +kernel
theorem dX1_between_19 : decode cX1_between 19 = .ok (.invokevirtual 103, 3) := by decide +kernel
theorem dX1_between_22 : decode cX1_between 22 = .ok (.aload_n 0, 1) := by decide +kernel
theorem dX1_between_23 : decode cX1_between 23 = .ok (.iload_n 1, 1) := by decide +kernel
theorem dX1_between_24 : decode cX1_between 24 = .ok (.invokevirtual 103, 3) := by decide +kernel
theorem dX1_between_27 : decode cX1_between 27 = .ok (.isub, 1) := by decide +kernel
theorem dX1_between_28 : decode cX1_between 28 = .ok (.ireturn, 1) := by decide +kernel
set_option maxRecDepth 20000 in
theorem ggX1_captain_X1_refuseOddHeight : GoodIn wsX1_captain wsX1_refuseOddHeight := goodIn_ca (goodIn_r _ [15, 16, 17] (by decide +kernel) (by decide +kernel)) (goodIn_sub (fun _ h => List.mem_cons_of_mem _ (List.mem_append_right _ h)) (by decide +kernel))
set_option maxRecDepth 20000 in
theorem gX1_captain_X1_refuseOddHeight : GoodIn wsX1_captain (va_wsS RX1 15 yX1_refuseOddHeight wsX1_refuseOddHeight) := goodIn_app (goodIn_of _ (by decide +kernel)) ggX1_captain_X1_refuseOddHeight
set_option maxRecDepth 20000 in
theorem ggX1_captain_X1_find : GoodIn wsX1_captain wsX1_find := goodIn_r _ [21, 10, 11, 22, 23, 24, 25, 26, 27, 28, 29, 33, 34, 35, 36, 37, 38, 39, 40, 41, 42, 43] (by decide +kernel) (by decide +kernel)
set_option maxRecDepth 20000 in
theorem gX1_captain_X1_find : GoodIn wsX1_captain (wsV RX1 23 RX1 yX1_find wsX1_find) := goodIn_app (goodIn_of _ (by decide +kernel)) ggX1_captain_X1_find
set_option maxRecDepth 20000 in
theorem ggX1_captain_X0_towards : GoodIn wsX1_captain wsX0_towards := goodIn_r _ [26, 27, 28, 29, 39, 40, 41, 42, 43] (by decide +kernel) (by decide +kernel)
set_option maxRecDepth 20000 in
theorem gX1_captain_X0_towards : GoodIn wsX1_captain (wsV RX1 117 RX0 yX0_towards wsX0_towards) := goodIn_app (goodIn_of _ (by decide +kernel)) ggX1_captain_X0_towards
set_option maxRecDepth 20000 in
theorem ggX1_captain_X1_heightOf : GoodIn wsX1_captain wsX1_heightOf := goodIn_r _ [32, 11, 39, 40, 41, 42, 43] (by decide +kernel) (by decide +kernel)
set_option maxRecDepth 20000 in
theorem gX1_captain_X1_heightOf : GoodIn wsX1_captain (va_wsS RX1 81 yX1_heightOf wsX1_heightOf) := goodIn_app (goodIn_of _ (by decide +kernel)) ggX1_captain_X1_heightOf
theorem dX1_captain_0 : decode cX1_captain 0 = .ok (.iload_n 1, 1) := by decide +kernel
theorem dX1_captain_1 : decode cX1_captain 1 = .ok (.invokestatic 15, 3) := by decide +kernel
theorem dX1_captain_4 : decode cX1_captain 4 = .ok (.iload_n 2, 1) := by decide +kernel
theorem dX1_captain_5 : decode cX1_captain 5 = .ok (.invokestatic 15, 3) := by decide +kernel
theorem dX1_captain_8 : decode cX1_captain 8 = .ok (.aload_n 0, 1) := by decide +kernel
theorem dX1_captain_9 : decode cX1_captain 9 = .ok (.iload_n 1, 1) := by decide +kernel
theorem dX1_captain_10 : decode cX1_captain 10 = .ok (.invokevirtual 23, 3) := by decide +kernel
theorem dX1_captain_13 : decode cX1_captain 13 = .ok (.ifnull 11, 3) := by decide +kernel
theorem dX1_captain_16 : decode cX1_captain 16 = .ok (.aload_n 0, 1) := by decide +kernel
theorem dX1_captain_17 : decode cX1_captain 17 = .ok (.iload_n 2, 1) := by decide +kernel
theorem dX1_captain_18 : decode cX1_captain 18 = .ok (.invokevirtual 23, 3) := by decide +kernel
theorem dX1_captain_21 : decode cX1_captain 21 = .ok (.ifnonnull 13, 3) := by decide +kernel
theorem dX1_captain_24 : decode cX1_captain 24 = .ok (.new 27, 3) := by decide +kernel
theorem dX1_captain_27 : decode cX1_captain 27 = .ok (.dup, 1) := by decide +kernel
theorem dX1_captain_28 : decode cX1_captain 28 = .ok (.ldc 106, 2) := by decide +kernel
theorem dX1_captain_30 : decode cX1_captain 30 = .ok (.invokespecial 31, 3) := by decide +kernel
theorem dX1_captain_33 : decode cX1_captain 33 = .ok (.athrow, 1) := by decide +kernel
theorem dX1_captain_34 : decode cX1_captain 34 = .ok (.iload_n 1, 1) := by decide +kernel
theorem dX1_captain_35 : decode cX1_captain 35 = .ok (.iload_n 2, 1) := by decide +kernel
theorem dX1_captain_36 : decode cX1_captain 36 = .ok (.invokestatic 108, 3) := by decide +kernel
theorem dX1_captain_39 : decode cX1_captain 39 = .ok (.istore_n 3, 1) := by decide +kernel
theorem dX1_captain_40 : decode cX1_captain 40 = .ok (.iload_n 1, 1) := by decide +kernel
theorem dX1_captain_41 : decode cX1_captain 41 = .ok (.iload_n 2, 1) := by decide +kernel
theorem dX1_captain_42 : decode cX1_captain 42 = .ok (.invokestatic 114, 3) := by decide +kernel
theorem dX1_captain_45 : decode cX1_captain 45 = .ok (.istore 4, 2) := by decide +kernel
theorem dX1_captain_47 : decode cX1_captain 47 = .ok (.aload_n 0, 1) := by decide +kernel
theorem dX1_captain_48 : decode cX1_captain 48 = .ok (.getfield 77, 3) := by decide +kernel
theorem dX1_captain_51 : decode cX1_captain 51 = .ok (.astore 5, 2) := by decide +kernel
theorem dX1_captain_53 : decode cX1_captain 53 = .ok (.aload 5, 2) := by decide +kernel
theorem dX1_captain_55 : decode cX1_captain 55 = .ok (.ifnull 33, 3) := by decide +kernel
theorem dX1_captain_58 : decode cX1_captain 58 = .ok (.iload 4, 2) := by decide +kernel
theorem dX1_captain_60 : decode cX1_captain 60 = .ok (.aload 5, 2) := by decide +kernel
theorem dX1_captain_62 : decode cX1_captain 62 = .ok (.getfield 100, 3) := by decide +kernel
theorem dX1_captain_65 : decode cX1_captain 65 = .ok (.if_icmp .lt 12, 3) := by decide +kernel
theorem dX1_captain_68 : decode cX1_captain 68 = .ok (.iload_n 3, 1) := by decide +kernel
theorem dX1_captain_69 : decode cX1_captain 69 = .ok (.aload 5, 2) := by decide +kernel
theorem dX1_captain_71 : decode cX1_captain 71 = .ok (.getfield 100, 3) := by decide +kernel
theorem dX1_captain_74 : decode cX1_captain 74 = .ok (.if_icmp .le 14, 3) := by decide +kernel
theorem dX1_captain_77 : decode cX1_captain 77 = .ok (.aload 5, 2) := by decide +kernel
theorem dX1_captain_79 : decode cX1_captain 79 = .ok (.iload_n 3, 1) := by decide +kernel
theorem dX1_captain_80 : decode cX1_captain 80 = .ok (.invokevirtual 117, 3) := by decide +kernel
theorem dX1_captain_83 : decode cX1_captain 83 = .ok (.astore 5, 2) := by decide +kernel
theorem dX1_captain_85 : decode cX1_captain 85 = .ok (.goto (-32), 3) := by decide +kernel
theorem dX1_captain_88 : decode cX1_captain 88 = .ok (.aload 5, 2) := by decide +kernel
theorem dX1_captain_90 : decode cX1_captain 90 = .ok (.invokestatic 81, 3) := by decide +kernel
theorem dX1_captain_93 : decode cX1_captain 93 = .ok (.ireturn, 1) := by decide +kernel
set_option maxRecDepth 20000 in
theorem ggX1_taller_X1_refuseOddHeight : GoodIn wsX1_taller wsX1_refuseOddHeight := goodIn_ca (goodIn_r _ [4, 5, 6] (by decide +kernel) (by decide +kernel)) (goodIn_sub (fun _ h => List.mem_cons_of_mem _ (List.mem_append_right _ h)) (by decide +kernel))
set_option maxRecDepth 20000 in
theorem gX1_taller_X1_refuseOddHeight : GoodIn wsX1_taller (va_wsS RX1 15 yX1_refuseOddHeight wsX1_refuseOddHeight) := goodIn_app (goodIn_of _ (by decide +kernel)) ggX1_taller_X1_refuseOddHeight
set_option maxRecDepth 20000 in
theorem ggX1_taller_X1_smallerThan : GoodIn wsX1_taller wsX1_smallerThan := goodIn_r _ [10, 11, 12, 13, 14, 15, 3, 16, 17, 18, 19, 20, 21, 22, 23, 24, 25, 35, 36, 37, 38, 39, 40, 41, 42, 43, 44, 45] (by decide +kernel) (by decide +kernel)
set_option maxRecDepth 20000 in
theorem gX1_taller_X1_smallerThan : GoodIn wsX1_taller (wsV RX1 103 RX1 yX1_smallerThan wsX1_smallerThan) := goodIn_app (goodIn_of _ (by decide +kernel)) ggX1_taller_X1_smallerThan
set_option maxRecDepth 20000 in
theorem ggX1_taller_X1_inLine : GoodIn wsX1_taller wsX1_inLine := goodIn_r _ [29, 30, 31, 35, 36, 37, 38, 39, 40] (by decide +kernel) (by decide +kernel)
set_option maxRecDepth 20000 in
theorem gX1_taller_X1_inLine : GoodIn wsX1_taller (wsV RX1 92 RX1 yX1_inLine wsX1_inLine) := goodIn_app (goodIn_of _ (by decide +kernel)) ggX1_taller_X1_inLine
set_option maxRecDepth 20000 in
theorem ggX1_taller_X1_heightOf : GoodIn wsX1_taller wsX1_heightOf := goodIn_r _ [34, 12, 41, 42, 43, 44, 45] (by decide +kernel) (by decide +kernel)
set_option maxRecDepth 20000 in
theorem gX1_taller_X1_heightOf : GoodIn wsX1_taller (va_wsS RX1 81 yX1_heightOf wsX1_heightOf) := goodIn_app (goodIn_of _ (by decide +kernel)) ggX1_taller_X1_heightOf
theorem dX1_taller_0 : decode cX1_taller 0 = .ok (.iload_n 1, 1) := by decide +kernel
theorem dX1_taller_1 : decode cX1_taller 1 = .ok (.invokestatic 15, 3) := by decide +kernel
theorem dX1_taller_4 : decode cX1_taller 4 = .ok (.aload_n 0, 1) := by decide +kernel
theorem dX1_taller_5 : decode cX1_taller 5 = .ok (.aload_n 0, 1) := by decide +kernel
theorem dX1_taller_6 : decode cX1_taller 6 = .ok (.iload_n 1, 1) := by decide +kernel
theorem dX1_taller_7 : decode cX1_taller 7 = .ok (.iconst 1, 1) := by decide +kernel
theorem dX1_taller_8 : decode cX1_taller 8 = .ok (.iadd, 1) := by decide +kernel
theorem dX1_taller_9 : decode cX1_taller 9 = .ok (.invokevirtual 103, 3) := by decide +kernel
theorem dX1_taller_12 : decode cX1_taller 12 = .ok (.invokevirtual 92, 3) := by decide +kernel
theorem dX1_taller_15 : decode cX1_taller 15 = .ok (.invokestatic 81, 3) := by decide +kernel
theorem dX1_taller_18 : decode cX1_taller 18 = .ok (.ireturn, 1) := by decide +kernel
set_option maxRecDepth 20000 in
theorem ggX1_count_X1_refuseOddQuestion : GoodIn wsX1_count wsX1_refuseOddQuestion := goodIn_ca (goodIn_r _ [4, 5, 6] (by decide +kernel) (by decide +kernel)) (goodIn_sub (fun _ h => List.mem_cons_of_mem _ (List.mem_append_right _ h)) (by decide +kernel))
set_option maxRecDepth 20000 in
theorem gX1_count_X1_refuseOddQuestion : GoodIn wsX1_count (va_wsS RX1 85 yX1_refuseOddQuestion wsX1_refuseOddQuestion) := goodIn_app (goodIn_of _ (by decide +kernel)) ggX1_count_X1_refuseOddQuestion
set_option maxRecDepth 20000 in
theorem ggX1_count_X1_tally : GoodIn wsX1_count wsX1_tally := goodIn_r _ [10, 11, 12, 13, 14, 15, 16, 17, 3, 18, 19, 20, 21, 22, 23, 24, 25, 26, 27, 28, 29, 30, 31, 32, 33, 34, 35, 36, 37, 38, 39, 40, 41, 42, 43, 44, 45, 46, 47, 48, 49, 50, 51, 52, 53, 54, 55, 56, 57, 58, 59, 60, 61, 62, 63, 64, 65, 66, 67, 68, 69, 70, 71, 72, 73, 74, 75, 76, 77, 78, 79] (by decide +kernel) (by decide +kernel)
set_option maxRecDepth 20000 in
theorem gX1_count_X1_tally : GoodIn wsX1_count (wsV RX1 120 RX1 yX1_tally wsX1_tally) := goodIn_app (goodIn_of _ (by decide +kernel)) ggX1_count_X1_tally
theorem dX1_count_0 : decode cX1_count 0 = .ok (.iload_n 1, 1) := by decide +kernel
theorem dX1_count_1 : decode cX1_count 1 = .ok (.invokestatic 85, 3) := by decide +kernel
theorem dX1_count_4 : decode cX1_count 4 = .ok (.aload_n 0, 1) := by decide +kernel
theorem dX1_count_5 : decode cX1_count 5 = .ok (.iload_n 1, 1) := by decide +kernel
theorem dX1_count_6 : decode cX1_count 6 = .ok (.invokevirtual 120, 3) := by decide +kernel
theorem dX1_count_9 : decode cX1_count 9 = .ok (.ireturn, 1) := by decide +kernel
set_option maxRecDepth 20000 in
theorem ggX1_would_X1_refuseOddHeight : GoodIn wsX1_would wsX1_refuseOddHeight := goodIn_ca (goodIn_r _ [4, 5, 6] (by decide +kernel) (by decide +kernel)) (goodIn_sub (fun _ h => List.mem_cons_of_mem _ (List.mem_append_right _ h)) (by decide +kernel))
set_option maxRecDepth 20000 in
theorem gX1_would_X1_refuseOddHeight : GoodIn wsX1_would (va_wsS RX1 15 yX1_refuseOddHeight wsX1_refuseOddHeight) := goodIn_app (goodIn_of _ (by decide +kernel)) ggX1_would_X1_refuseOddHeight
set_option maxRecDepth 20000 in
theorem ggX1_would_X1_find : GoodIn wsX1_would wsX1_find := goodIn_r _ [10, 11, 12, 13, 14, 15, 16, 17, 18, 19, 20, 36, 37, 38, 39, 40, 41, 42, 43, 44, 45, 46] (by decide +kernel) (by decide +kernel)
set_option maxRecDepth 20000 in
theorem gX1_would_X1_find : GoodIn wsX1_would (wsV RX1 23 RX1 yX1_find wsX1_find) := goodIn_app (goodIn_of _ (by decide +kernel)) ggX1_would_X1_find
set_option maxRecDepth 20000 in
theorem ggX1_would_X1_lastOnTheWayTo : GoodIn wsX1_would wsX1_lastOnTheWayTo := goodIn_r _ [24, 11, 13, 14, 15, 16, 17, 18, 19, 20, 36, 37, 38, 39, 40, 41, 42, 43, 44, 45, 46] (by decide +kernel) (by decide +kernel)
set_option maxRecDepth 20000 in
theorem gX1_would_X1_lastOnTheWayTo : GoodIn wsX1_would (wsV RX1 40 RX1 yX1_lastOnTheWayTo wsX1_lastOnTheWayTo) := goodIn_app (goodIn_of _ (by decide +kernel)) ggX1_would_X1_lastOnTheWayTo
set_option maxRecDepth 20000 in
theorem ggX1_would_X1_newDepth : GoodIn wsX1_would wsX1_newDepth := goodIn_r _ [27, 28, 29, 3, 30, 31, 32, 33, 16, 34, 35, 42, 43, 44, 45, 46] (by decide +kernel) (by decide +kernel)
set_option maxRecDepth 20000 in
theorem gX1_would_X1_newDepth : GoodIn wsX1_would (va_wsS RX1 123 yX1_newDepth wsX1_newDepth) := goodIn_app (goodIn_of _ (by decide +kernel)) ggX1_would_X1_newDepth
theorem dX1_would_0 : decode cX1_would 0 = .ok (.iload_n 1, 1) := by decide +kernel
theorem dX1_would_1 : decode cX1_would 1 = .ok (.invokestatic 15, 3) := by decide +kernel
theorem dX1_would_4 : decode cX1_would 4 = .ok (.aload_n 0, 1) := by decide +kernel
theorem dX1_would_5 : decode cX1_would 5 = .ok (.iload_n 1, 1) := by decide +kernel
theorem dX1_would_6 : decode cX1_would 6 = .ok (.invokevirtual 23, 3) := by decide +kernel
theorem dX1_would_9 : decode cX1_would 9 = .ok (.ifnull 7, 3) := by decide +kernel
theorem dX1_would_12 : decode cX1_would 12 = .ok (.iconst (-1), 1) := by decide +kernel
theorem dX1_would_13 : decode cX1_would 13 = .ok (.goto 11, 3) := by decide +kernel
theorem dX1_would_16 : decode cX1_would 16 = .ok (.aload_n 0, 1) := by decide +kernel
theorem dX1_would_17 : decode cX1_would 17 = .ok (.iload_n 1, 1) := by decide +kernel
theorem dX1_would_18 : decode cX1_would 18 = .ok (.invokevirtual 40, 3) := by decide +kernel
theorem dX1_would_21 : decode cX1_would 21 = .ok (.invokestatic 123, 3) := by decide +kernel
theorem dX1_would_24 : decode cX1_would 24 = .ok (.ireturn, 1) := by decide +kernel
set_option maxRecDepth 20000 in
theorem ggX1_moves_X1_refuseOddHeight : GoodIn wsX1_moves wsX1_refuseOddHeight := goodIn_ca (goodIn_r _ [7, 8, 9] (by decide +kernel) (by decide +kernel)) (goodIn_sub (fun _ h => List.mem_cons_of_mem _ (List.mem_append_right _ h)) (by decide +kernel))
set_option maxRecDepth 20000 in
theorem gX1_moves_X1_refuseOddHeight : GoodIn wsX1_moves (va_wsS RX1 15 yX1_refuseOddHeight wsX1_refuseOddHeight) := goodIn_app (goodIn_of _ (by decide +kernel)) ggX1_moves_X1_refuseOddHeight
set_option maxRecDepth 20000 in
theorem ggX1_moves_X1_find : GoodIn wsX1_moves wsX1_find := goodIn_r _ [13, 14, 2, 15, 16, 17, 18, 19, 20, 21, 22, 52, 53, 54, 55, 56, 57, 58, 59, 60, 61, 62] (by decide +kernel) (by decide +kernel)
set_option maxRecDepth 20000 in
theorem gX1_moves_X1_find : GoodIn wsX1_moves (wsV RX1 23 RX1 yX1_find wsX1_find) := goodIn_app (goodIn_of _ (by decide +kernel)) ggX1_moves_X1_find
set_option maxRecDepth 20000 in
theorem ggX1_moves_X1_lastOnTheWayTo : GoodIn wsX1_moves wsX1_lastOnTheWayTo := goodIn_r _ [26, 14, 15, 16, 17, 18, 19, 20, 21, 22, 52, 53, 54, 55, 56, 57, 58, 59, 60, 61, 62] (by decide +kernel) (by decide +kernel)
set_option maxRecDepth 20000 in
theorem gX1_moves_X1_lastOnTheWayTo : GoodIn wsX1_moves (wsV RX1 40 RX1 yX1_lastOnTheWayTo wsX1_lastOnTheWayTo) := goodIn_app (goodIn_of _ (by decide +kernel)) ggX1_moves_X1_lastOnTheWayTo
set_option maxRecDepth 20000 in
theorem ggX1_moves_X1_newDepth : GoodIn wsX1_moves wsX1_newDepth := goodIn_r _ [29, 30, 31, 6, 32, 33, 34, 35, 18, 36, 37, 58, 59, 60, 61, 62] (by decide +kernel) (by decide +kernel)
set_option maxRecDepth 20000 in
theorem gX1_moves_X1_newDepth : GoodIn wsX1_moves (va_wsS RX1 123 yX1_newDepth wsX1_newDepth) := goodIn_app (goodIn_of _ (by decide +kernel)) ggX1_moves_X1_newDepth
set_option maxRecDepth 20000 in
theorem ggX1_moves_X1_allowedDepth : GoodIn wsX1_moves wsX1_allowedDepth := goodIn_r _ [40, 41, 42] (by decide +kernel) (by decide +kernel)
set_option maxRecDepth 20000 in
theorem gX1_moves_X1_allowedDepth : GoodIn wsX1_moves (va_wsS RX1 58 yX1_allowedDepth wsX1_allowedDepth) := goodIn_app (goodIn_of _ (by decide +kernel)) ggX1_moves_X1_allowedDepth
set_option maxRecDepth 20000 in
theorem ggX1_moves_X0_wouldBeCrookedWith : GoodIn wsX1_moves wsX0_wouldBeCrookedWith := goodIn_r _ [46, 20, 21, 22, 47, 6, 48, 49, 50, 51, 58, 59, 60, 61, 62] (by decide +kernel) (by decide +kernel)
set_option maxRecDepth 20000 in
theorem gX1_moves_X0_wouldBeCrookedWith : GoodIn wsX1_moves (wsV RX1 126 RX0 yX0_wouldBeCrookedWith wsX0_wouldBeCrookedWith) := goodIn_app (goodIn_of _ (by decide +kernel)) ggX1_moves_X0_wouldBeCrookedWith
theorem dX1_moves_0 : decode cX1_moves 0 = .ok (.iload_n 1, 1) := by decide +kernel
theorem dX1_moves_1 : decode cX1_moves 1 = .ok (.invokestatic 15, 3) := by decide +kernel
theorem dX1_moves_4 : decode cX1_moves 4 = .ok (.aload_n 0, 1) := by decide +kernel
theorem dX1_moves_5 : decode cX1_moves 5 = .ok (.iload_n 1, 1) := by decide +kernel
theorem dX1_moves_6 : decode cX1_moves 6 = .ok (.invokevirtual 23, 3) := by decide +kernel
theorem dX1_moves_9 : decode cX1_moves 9 = .ok (.ifnull 5, 3) := by decide +kernel
theorem dX1_moves_12 : decode cX1_moves 12 = .ok (.iconst (-1), 1) := by decide +kernel
theorem dX1_moves_13 : decode cX1_moves 13 = .ok (.ireturn, 1) := by decide +kernel
theorem dX1_moves_14 : decode cX1_moves 14 = .ok (.aload_n 0, 1) := by decide +kernel
theorem dX1_moves_15 : decode cX1_moves 15 = .ok (.iload_n 1, 1) := by decide +kernel
theorem dX1_moves_16 : decode cX1_moves 16 = .ok (.invokevirtual 40, 3) := by decide +kernel
theorem dX1_moves_19 : decode cX1_moves 19 = .ok (.astore_n 2, 1) := by decide +kernel
theorem dX1_moves_20 : decode cX1_moves 20 = .ok (.aload_n 2, 1) := by decide +kernel
theorem dX1_moves_21 : decode cX1_moves 21 = .ok (.invokestatic 123, 3) := by decide +kernel
theorem dX1_moves_24 : decode cX1_moves 24 = .ok (.aload_n 0, 1) := by decide +kernel
theorem dX1_moves_25 : decode cX1_moves 25 = .ok (.getfield 19, 3) := by decide +kernel
theorem dX1_moves_28 : decode cX1_moves 28 = .ok (.iconst 1, 1) := by decide +kernel
theorem dX1_moves_29 : decode cX1_moves 29 = .ok (.iadd, 1) := by decide +kernel
theorem dX1_moves_30 : decode cX1_moves 30 = .ok (.invokestatic 58, 3) := by decide +kernel
theorem dX1_moves_33 : decode cX1_moves 33 = .ok (.if_icmp .gt 5, 3) := by decide +kernel
theorem dX1_moves_36 : decode cX1_moves 36 = .ok (.iconst (-1), 1) := by decide +kernel
theorem dX1_moves_37 : decode cX1_moves 37 = .ok (.ireturn, 1) := by decide +kernel
theorem dX1_moves_38 : decode cX1_moves 38 = .ok (.aload_n 2, 1) := by decide +kernel
theorem dX1_moves_39 : decode cX1_moves 39 = .ok (.astore_n 3, 1) := by decide +kernel
theorem dX1_moves_40 : decode cX1_moves 40 = .ok (.aload_n 3, 1) := by decide +kernel
theorem dX1_moves_41 : decode cX1_moves 41 = .ok (.ifnull 24, 3) := by decide +kernel
theorem dX1_moves_44 : decode cX1_moves 44 = .ok (.aload_n 3, 1) := by decide +kernel
theorem dX1_moves_45 : decode cX1_moves 45 = .ok (.iload_n 1, 1) := by decide +kernel
theorem dX1_moves_46 : decode cX1_moves 46 = .ok (.invokevirtual 126, 3) := by decide +kernel
theorem dX1_moves_49 : decode cX1_moves 49 = .ok (.ifCond .eq 8, 3) := by decide +kernel
theorem dX1_moves_52 : decode cX1_moves 52 = .ok (.aload_n 3, 1) := by decide +kernel
theorem dX1_moves_53 : decode cX1_moves 53 = .ok (.getfield 100, 3) := by decide +kernel
theorem dX1_moves_56 : decode cX1_moves 56 = .ok (.ireturn, 1) := by decide +kernel
theorem dX1_moves_57 : decode cX1_moves 57 = .ok (.aload_n 3, 1) := by decide +kernel
theorem dX1_moves_58 : decode cX1_moves 58 = .ok (.getfield 130, 3) := by decide +kernel
theorem dX1_moves_61 : decode cX1_moves 61 = .ok (.astore_n 3, 1) := by decide +kernel
theorem dX1_moves_62 : decode cX1_moves 62 = .ok (.goto (-22), 3) := by decide +kernel
theorem dX1_moves_65 : decode cX1_moves 65 = .ok (.iconst (-1), 1) := by decide +kernel
theorem dX1_moves_66 : decode cX1_moves 66 = .ok (.ireturn, 1) := by decide +kernel
set_option maxRecDepth 20000 in
theorem ggX1_mean_X1_inLine : GoodIn wsX1_mean wsX1_inLine := goodIn_r _ [6, 1, 7, 17, 18, 19, 20, 21, 22] (by decide +kernel) (by decide +kernel)
set_option maxRecDepth 20000 in
theorem gX1_mean_X1_inLine : GoodIn wsX1_mean (wsV RX1 92 RX1 yX1_inLine wsX1_inLine) := goodIn_app (goodIn_of _ (by decide +kernel)) ggX1_mean_X1_inLine
set_option maxRecDepth 20000 in
theorem ggX1_mean_X1_depthOf : GoodIn wsX1_mean wsX1_depthOf := goodIn_r _ [10, 11, 12, 13, 14, 15, 16, 23, 24, 25, 26, 27] (by decide +kernel) (by decide +kernel)
set_option maxRecDepth 20000 in
theorem gX1_mean_X1_depthOf : GoodIn wsX1_mean (va_wsS RX1 133 yX1_depthOf wsX1_depthOf) := goodIn_app (goodIn_of _ (by decide +kernel)) ggX1_mean_X1_depthOf
theorem dX1_mean_0 : decode cX1_mean 0 = .ok (.aload_n 0, 1) := by decide +kernel
theorem dX1_mean_1 : decode cX1_mean 1 = .ok (.getfield 19, 3) := by decide +kernel
theorem dX1_mean_4 : decode cX1_mean 4 = .ok (.ifCond .ne 5, 3) := by decide +kernel
theorem dX1_mean_7 : decode cX1_mean 7 = .ok (.dconst 0, 1) := by decide +kernel
theorem dX1_mean_8 : decode cX1_mean 8 = .ok (.dreturn, 1) := by decide +kernel
theorem dX1_mean_9 : decode cX1_mean 9 = .ok (.iconst 0, 1) := by decide +kernel
theorem dX1_mean_10 : decode cX1_mean 10 = .ok (.istore_n 1, 1) := by decide +kernel
theorem dX1_mean_11 : decode cX1_mean 11 = .ok (.iconst 0, 1) := by decide +kernel
theorem dX1_mean_12 : decode cX1_mean 12 = .ok (.istore_n 2, 1) := by decide +kernel
theorem dX1_mean_13 : decode cX1_mean 13 = .ok (.iload_n 2, 1) := by decide +kernel
theorem dX1_mean_14 : decode cX1_mean 14 = .ok (.aload_n 0, 1) := by decide +kernel
theorem dX1_mean_15 : decode cX1_mean 15 = .ok (.getfield 19, 3) := by decide +kernel
theorem dX1_mean_18 : decode cX1_mean 18 = .ok (.if_icmp .ge 20, 3) := by decide +kernel
theorem dX1_mean_21 : decode cX1_mean 21 = .ok (.iload_n 1, 1) := by decide +kernel
theorem dX1_mean_22 : decode cX1_mean 22 = .ok (.aload_n 0, 1) := by decide +kernel
theorem dX1_mean_23 : decode cX1_mean 23 = .ok (.iload_n 2, 1) := by decide +kernel
theorem dX1_mean_24 : decode cX1_mean 24 = .ok (.invokevirtual 92, 3) := by decide +kernel
theorem dX1_mean_27 : decode cX1_mean 27 = .ok (.invokestatic 133, 3) := by decide +kernel
theorem dX1_mean_30 : decode cX1_mean 30 = .ok (.iadd, 1) := by decide +kernel
theorem dX1_mean_31 : decode cX1_mean 31 = .ok (.istore_n 1, 1) := by decide +kernel
theorem dX1_mean_32 : decode cX1_mean 32 = .ok (.iinc 2 1, 3) := by decide +kernel
theorem dX1_mean_35 : decode cX1_mean 35 = .ok (.goto (-22), 3) := by decide +kernel
theorem dX1_mean_38 : decode cX1_mean 38 = .ok (.iload_n 1, 1) := by decide +kernel
theorem dX1_mean_39 : decode cX1_mean 39 = .ok (.i2d, 1) := by decide +kernel
theorem dX1_mean_40 : decode cX1_mean 40 = .ok (.aload_n 0, 1) := by decide +kernel
theorem dX1_mean_41 : decode cX1_mean 41 = .ok (.getfield 19, 3) := by decide +kernel
theorem dX1_mean_44 : decode cX1_mean 44 = .ok (.i2d, 1) := by decide +kernel
theorem dX1_mean_45 : decode cX1_mean 45 = .ok (.ddiv, 1) := by decide +kernel
theorem dX1_mean_46 : decode cX1_mean 46 = .ok (.dreturn, 1) := by decide +kernel
set_option maxRecDepth 20000 in
theorem ggX1_digest_X1_tally : GoodIn wsX1_digest wsX1_tally := goodIn_r _ [8, 3, 9, 10, 11, 12, 13, 14, 7, 15, 16, 17, 18, 19, 20, 21, 22, 23, 24, 25, 26, 27, 28, 29, 30, 31, 32, 33, 34, 35, 36, 37, 38, 39, 40, 41, 42, 43, 44, 45, 46, 47, 48, 49, 50, 51, 52, 53, 54, 55, 56, 57, 58, 59, 60, 61, 62, 63, 64, 65, 76, 77, 78, 79, 80, 81, 82, 83, 84, 85, 86] (by decide +kernel) (by decide +kernel)
set_option maxRecDepth 20000 in
theorem gX1_digest_X1_tally : GoodIn wsX1_digest (wsV RX1 120 RX1 yX1_tally wsX1_tally) := goodIn_app (goodIn_of _ (by decide +kernel)) ggX1_digest_X1_tally
set_option maxRecDepth 20000 in
theorem ggX1_digest_X1_inLine : GoodIn wsX1_digest wsX1_inLine := goodIn_r _ [45, 3, 46, 76, 77, 78, 79, 80, 81] (by decide +kernel) (by decide +kernel)
set_option maxRecDepth 20000 in
theorem gX1_digest_X1_inLine : GoodIn wsX1_digest (wsV RX1 92 RX1 yX1_inLine wsX1_inLine) := goodIn_app (goodIn_of _ (by decide +kernel)) ggX1_digest_X1_inLine
set_option maxRecDepth 20000 in
theorem ggX1_digest_X1_heightOf : GoodIn wsX1_digest wsX1_heightOf := goodIn_r _ [15, 16, 82, 83, 84, 85, 86] (by decide +kernel) (by decide +kernel)
set_option maxRecDepth 20000 in
theorem gX1_digest_X1_heightOf : GoodIn wsX1_digest (va_wsS RX1 81 yX1_heightOf wsX1_heightOf) := goodIn_app (goodIn_of _ (by decide +kernel)) ggX1_digest_X1_heightOf
set_option maxRecDepth 20000 in
theorem ggX1_digest_X1_tell : GoodIn wsX1_digest wsX1_tell := goodIn_r _ [69, 50, 21, 70, 22, 16, 71, 72, 73, 37, 74, 75, 13, 14, 7, 15, 17, 18, 19, 20, 23, 24, 25, 26, 27, 28, 29, 30, 9, 31, 32, 33, 34, 35, 36, 38, 39, 40, 41, 42, 43, 44, 45, 3, 46, 47, 48, 49, 60, 61, 62, 63, 64, 65, 82, 83, 84, 85, 86, 76, 77, 78, 79, 80, 81] (by decide +kernel) (by decide +kernel)
set_option maxRecDepth 20000 in
theorem gX1_digest_X1_tell : GoodIn wsX1_digest (wsV RX1 88 RX1 yX1_tell wsX1_tell) := goodIn_app (goodIn_of _ (by decide +kernel)) ggX1_digest_X1_tell
theorem dX1_digest_0 : decode cX1_digest 0 = .ok (.ldc2_w 136, 3) := by decide +kernel
theorem dX1_digest_3 : decode cX1_digest 3 = .ok (.lstore_n 1, 1) := by decide +kernel
theorem dX1_digest_4 : decode cX1_digest 4 = .ok (.iconst 0, 1) := by decide +kernel
theorem dX1_digest_5 : decode cX1_digest 5 = .ok (.istore_n 3, 1) := by decide +kernel
theorem dX1_digest_6 : decode cX1_digest 6 = .ok (.iload_n 3, 1) := by decide +kernel
theorem dX1_digest_7 : decode cX1_digest 7 = .ok (.bipush 7, 2) := by decide +kernel
theorem dX1_digest_9 : decode cX1_digest 9 = .ok (.if_icmp .gt 22, 3) := by decide +kernel
theorem dX1_digest_12 : decode cX1_digest 12 = .ok (.lload_n 1, 1) := by decide +kernel
theorem dX1_digest_13 : decode cX1_digest 13 = .ok (.ldc2_w 138, 3) := by decide +kernel
theorem dX1_digest_16 : decode cX1_digest 16 = .ok (.lmul, 1) := by decide +kernel
theorem dX1_digest_17 : decode cX1_digest 17 = .ok (.aload_n 0, 1) := by decide +kernel
theorem dX1_digest_18 : decode cX1_digest 18 = .ok (.iload_n 3, 1) := by decide +kernel
theorem dX1_digest_19 : decode cX1_digest 19 = .ok (.invokevirtual 120, 3) := by decide +kernel
theorem dX1_digest_22 : decode cX1_digest 22 = .ok (.i2l, 1) := by decide +kernel
theorem dX1_digest_23 : decode cX1_digest 23 = .ok (.ladd, 1) := by decide +kernel
theorem dX1_digest_24 : decode cX1_digest 24 = .ok (.lstore_n 1, 1) := by decide +kernel
theorem dX1_digest_25 : decode cX1_digest 25 = .ok (.iinc 3 1, 3) := by decide +kernel
theorem dX1_digest_28 : decode cX1_digest 28 = .ok (.goto (-22), 3) := by decide +kernel
theorem dX1_digest_31 : decode cX1_digest 31 = .ok (.iconst 0, 1) := by decide +kernel
theorem dX1_digest_32 : decode cX1_digest 32 = .ok (.istore_n 3, 1) := by decide +kernel
theorem dX1_digest_33 : decode cX1_digest 33 = .ok (.iload_n 3, 1) := by decide +kernel
theorem dX1_digest_34 : decode cX1_digest 34 = .ok (.aload_n 0, 1) := by decide +kernel
theorem dX1_digest_35 : decode cX1_digest 35 = .ok (.getfield 19, 3) := by decide +kernel
theorem dX1_digest_38 : decode cX1_digest 38 = .ok (.if_icmp .ge 61, 3) := by decide +kernel
theorem dX1_digest_41 : decode cX1_digest 41 = .ok (.aload_n 0, 1) := by decide +kernel
theorem dX1_digest_42 : decode cX1_digest 42 = .ok (.iload_n 3, 1) := by decide +kernel
theorem dX1_digest_43 : decode cX1_digest 43 = .ok (.invokevirtual 92, 3) := by decide +kernel
theorem dX1_digest_46 : decode cX1_digest 46 = .ok (.astore 4, 2) := by decide +kernel
theorem dX1_digest_48 : decode cX1_digest 48 = .ok (.lload_n 1, 1) := by decide +kernel
theorem dX1_digest_49 : decode cX1_digest 49 = .ok (.ldc2_w 138, 3) := by decide +kernel
theorem dX1_digest_52 : decode cX1_digest 52 = .ok (.lmul, 1) := by decide +kernel
theorem dX1_digest_53 : decode cX1_digest 53 = .ok (.aload 4, 2) := by decide +kernel
theorem dX1_digest_55 : decode cX1_digest 55 = .ok (.invokestatic 81, 3) := by decide +kernel
theorem dX1_digest_58 : decode cX1_digest 58 = .ok (.i2l, 1) := by decide +kernel
theorem dX1_digest_59 : decode cX1_digest 59 = .ok (.ladd, 1) := by decide +kernel
theorem dX1_digest_60 : decode cX1_digest 60 = .ok (.lstore_n 1, 1) := by decide +kernel
theorem dX1_digest_61 : decode cX1_digest 61 = .ok (.iconst 0, 1) := by decide +kernel
theorem dX1_digest_62 : decode cX1_digest 62 = .ok (.istore 5, 2) := by decide +kernel
theorem dX1_digest_64 : decode cX1_digest 64 = .ok (.iload 5, 2) := by decide +kernel
