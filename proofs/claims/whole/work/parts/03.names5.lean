theorem dX1_tally_0 : decode cX1_tally 0 = .ok (.iload_n 1, 1) := by decide +kernel
theorem dX1_tally_1 : decode cX1_tally 1 = .ok (.tableswitch 88 0 6 #[43, 48, 56, 65, 73, 78, 83], 43) := by decide +kernel
theorem dX1_tally_44 : decode cX1_tally 44 = .ok (.aload_n 0, 1) := by decide +kernel
theorem dX1_tally_45 : decode cX1_tally 45 = .ok (.getfield 19, 3) := by decide +kernel
theorem dX1_tally_48 : decode cX1_tally 48 = .ok (.ireturn, 1) := by decide +kernel
theorem dX1_tally_49 : decode cX1_tally 49 = .ok (.aload_n 0, 1) := by decide +kernel
theorem dX1_tally_50 : decode cX1_tally 50 = .ok (.getfield 77, 3) := by decide +kernel
theorem dX1_tally_53 : decode cX1_tally 53 = .ok (.invokestatic 81, 3) := by decide +kernel
theorem dX1_tally_56 : decode cX1_tally 56 = .ok (.ireturn, 1) := by decide +kernel
theorem dX1_tally_57 : decode cX1_tally 57 = .ok (.aload_n 0, 1) := by decide +kernel
theorem dX1_tally_58 : decode cX1_tally 58 = .ok (.aload_n 0, 1) := by decide +kernel
theorem dX1_tally_59 : decode cX1_tally 59 = .ok (.getfield 77, 3) := by decide +kernel
theorem dX1_tally_62 : decode cX1_tally 62 = .ok (.invokevirtual 188, 3) := by decide +kernel
theorem dX1_tally_65 : decode cX1_tally 65 = .ok (.ireturn, 1) := by decide +kernel
theorem dX1_tally_66 : decode cX1_tally 66 = .ok (.aload_n 0, 1) := by decide +kernel
theorem dX1_tally_67 : decode cX1_tally 67 = .ok (.getfield 19, 3) := by decide +kernel
theorem dX1_tally_70 : decode cX1_tally 70 = .ok (.invokestatic 58, 3) := by decide +kernel
theorem dX1_tally_73 : decode cX1_tally 73 = .ok (.ireturn, 1) := by decide +kernel
theorem dX1_tally_74 : decode cX1_tally 74 = .ok (.aload_n 0, 1) := by decide +kernel
theorem dX1_tally_75 : decode cX1_tally 75 = .ok (.invokevirtual 191, 3) := by decide +kernel
theorem dX1_tally_78 : decode cX1_tally 78 = .ok (.ireturn, 1) := by decide +kernel
theorem dX1_tally_79 : decode cX1_tally 79 = .ok (.aload_n 0, 1) := by decide +kernel
theorem dX1_tally_80 : decode cX1_tally 80 = .ok (.getfield 182, 3) := by decide +kernel
theorem dX1_tally_83 : decode cX1_tally 83 = .ok (.ireturn, 1) := by decide +kernel
theorem dX1_tally_84 : decode cX1_tally 84 = .ok (.aload_n 0, 1) := by decide +kernel
theorem dX1_tally_85 : decode cX1_tally 85 = .ok (.getfield 185, 3) := by decide +kernel
theorem dX1_tally_88 : decode cX1_tally 88 = .ok (.ireturn, 1) := by decide +kernel
theorem dX1_tally_89 : decode cX1_tally 89 = .ok (.aload_n 0, 1) := by decide +kernel
theorem dX1_tally_90 : decode cX1_tally 90 = .ok (.getfield 51, 3) := by decide +kernel
theorem dX1_tally_93 : decode cX1_tally 93 = .ok (.ireturn, 1) := by decide +kernel
set_option maxRecDepth 20000 in
theorem ggX1_deepestBelow_X1_smallerThan : GoodIn wsX1_deepestBelow wsX1_smallerThan := goodIn_r _ [12, 13, 1, 2, 14, 15, 11, 16, 3, 17, 18, 19, 20, 21, 22, 23, 24, 40, 41, 42, 43, 44, 45, 35, 36, 37, 38, 39] (by decide +kernel) (by decide +kernel)
set_option maxRecDepth 20000 in
theorem gX1_deepestBelow_X1_smallerThan : GoodIn wsX1_deepestBelow (wsV RX1 103 RX1 yX1_smallerThan wsX1_smallerThan) := goodIn_app (goodIn_of _ (by decide +kernel)) ggX1_deepestBelow_X1_smallerThan
set_option maxRecDepth 20000 in
theorem ggX1_deepestBelow_X1_companyOf : GoodIn wsX1_deepestBelow wsX1_companyOf := goodIn_r _ [16, 3, 35, 36, 37, 38, 39] (by decide +kernel) (by decide +kernel)
set_option maxRecDepth 20000 in
theorem gX1_deepestBelow_X1_companyOf : GoodIn wsX1_deepestBelow (va_wsS RX1 153 yX1_companyOf wsX1_companyOf) := goodIn_app (goodIn_of _ (by decide +kernel)) ggX1_deepestBelow_X1_companyOf
set_option maxRecDepth 20000 in
theorem ggX1_deepestBelow_X1_inLine : GoodIn wsX1_deepestBelow wsX1_inLine := goodIn_r _ [28, 29, 30, 40, 41, 42, 43, 44, 45] (by decide +kernel) (by decide +kernel)
set_option maxRecDepth 20000 in
theorem gX1_deepestBelow_X1_inLine : GoodIn wsX1_deepestBelow (wsV RX1 92 RX1 yX1_inLine wsX1_inLine) := goodIn_app (goodIn_of _ (by decide +kernel)) ggX1_deepestBelow_X1_inLine
set_option maxRecDepth 20000 in
theorem ggX1_deepestBelow_X1_stepsUp : GoodIn wsX1_deepestBelow wsX1_stepsUp := goodIn_r _ [33, 34, 35, 36, 37, 38, 39] (by decide +kernel) (by decide +kernel)
set_option maxRecDepth 20000 in
theorem gX1_deepestBelow_X1_stepsUp : GoodIn wsX1_deepestBelow (va_wsS RX1 194 yX1_stepsUp wsX1_stepsUp) := goodIn_app (goodIn_of _ (by decide +kernel)) ggX1_deepestBelow_X1_stepsUp
theorem dX1_deepestBelow_0 : decode cX1_deepestBelow 0 = .ok (.aload_n 1, 1) := by decide +kernel
theorem dX1_deepestBelow_1 : decode cX1_deepestBelow 1 = .ok (.ifnonnull 5, 3) := by decide +kernel
theorem dX1_deepestBelow_4 : decode cX1_deepestBelow 4 = .ok (.iconst (-1), 1) := by decide +kernel
theorem dX1_deepestBelow_5 : decode cX1_deepestBelow 5 = .ok (.ireturn, 1) := by decide +kernel
theorem dX1_deepestBelow_6 : decode cX1_deepestBelow 6 = .ok (.aload_n 0, 1) := by decide +kernel
theorem dX1_deepestBelow_7 : decode cX1_deepestBelow 7 = .ok (.aload_n 1, 1) := by decide +kernel
theorem dX1_deepestBelow_8 : decode cX1_deepestBelow 8 = .ok (.getfield 100, 3) := by decide +kernel
theorem dX1_deepestBelow_11 : decode cX1_deepestBelow 11 = .ok (.invokevirtual 103, 3) := by decide +kernel
theorem dX1_deepestBelow_14 : decode cX1_deepestBelow 14 = .ok (.aload_n 1, 1) := by decide +kernel
theorem dX1_deepestBelow_15 : decode cX1_deepestBelow 15 = .ok (.getfield 150, 3) := by decide +kernel
theorem dX1_deepestBelow_18 : decode cX1_deepestBelow 18 = .ok (.invokestatic 153, 3) := by decide +kernel
theorem dX1_deepestBelow_21 : decode cX1_deepestBelow 21 = .ok (.isub, 1) := by decide +kernel
theorem dX1_deepestBelow_22 : decode cX1_deepestBelow 22 = .ok (.istore_n 2, 1) := by decide +kernel
theorem dX1_deepestBelow_23 : decode cX1_deepestBelow 23 = .ok (.iconst 0, 1) := by decide +kernel
theorem dX1_deepestBelow_24 : decode cX1_deepestBelow 24 = .ok (.istore_n 3, 1) := by decide +kernel
theorem dX1_deepestBelow_25 : decode cX1_deepestBelow 25 = .ok (.iconst 0, 1) := by decide +kernel
theorem dX1_deepestBelow_26 : decode cX1_deepestBelow 26 = .ok (.istore 4, 2) := by decide +kernel
theorem dX1_deepestBelow_28 : decode cX1_deepestBelow 28 = .ok (.iload 4, 2) := by decide +kernel
theorem dX1_deepestBelow_30 : decode cX1_deepestBelow 30 = .ok (.aload_n 1, 1) := by decide +kernel
theorem dX1_deepestBelow_31 : decode cX1_deepestBelow 31 = .ok (.getfield 147, 3) := by decide +kernel
theorem dX1_deepestBelow_34 : decode cX1_deepestBelow 34 = .ok (.if_icmp .ge 26, 3) := by decide +kernel
theorem dX1_deepestBelow_37 : decode cX1_deepestBelow 37 = .ok (.iload_n 3, 1) := by decide +kernel
theorem dX1_deepestBelow_38 : decode cX1_deepestBelow 38 = .ok (.aload_n 0, 1) := by decide +kernel
theorem dX1_deepestBelow_39 : decode cX1_deepestBelow 39 = .ok (.iload_n 2, 1) := by decide +kernel
theorem dX1_deepestBelow_40 : decode cX1_deepestBelow 40 = .ok (.iload 4, 2) := by decide +kernel
theorem dX1_deepestBelow_42 : decode cX1_deepestBelow 42 = .ok (.iadd, 1) := by decide +kernel
theorem dX1_deepestBelow_43 : decode cX1_deepestBelow 43 = .ok (.invokevirtual 92, 3) := by decide +kernel
theorem dX1_deepestBelow_46 : decode cX1_deepestBelow 46 = .ok (.aload_n 1, 1) := by decide +kernel
theorem dX1_deepestBelow_47 : decode cX1_deepestBelow 47 = .ok (.invokestatic 194, 3) := by decide +kernel
theorem dX1_deepestBelow_50 : decode cX1_deepestBelow 50 = .ok (.invokestatic 114, 3) := by decide +kernel
theorem dX1_deepestBelow_53 : decode cX1_deepestBelow 53 = .ok (.istore_n 3, 1) := by decide +kernel
theorem dX1_deepestBelow_54 : decode cX1_deepestBelow 54 = .ok (.iinc 4 1, 3) := by decide +kernel
theorem dX1_deepestBelow_57 : decode cX1_deepestBelow 57 = .ok (.goto (-29), 3) := by decide +kernel
theorem dX1_deepestBelow_60 : decode cX1_deepestBelow 60 = .ok (.iload_n 3, 1) := by decide +kernel
theorem dX1_deepestBelow_61 : decode cX1_deepestBelow 61 = .ok (.ireturn, 1) := by decide +kernel
theorem dX1_stepsUp_0 : decode cX1_stepsUp 0 = .ok (.iconst 0, 1) := by decide +kernel
theorem dX1_stepsUp_1 : decode cX1_stepsUp 1 = .ok (.istore_n 2, 1) := by decide +kernel
theorem dX1_stepsUp_2 : decode cX1_stepsUp 2 = .ok (.aload_n 0, 1) := by decide +kernel
theorem dX1_stepsUp_3 : decode cX1_stepsUp 3 = .ok (.astore_n 3, 1) := by decide +kernel
theorem dX1_stepsUp_4 : decode cX1_stepsUp 4 = .ok (.aload_n 3, 1) := by decide +kernel
theorem dX1_stepsUp_5 : decode cX1_stepsUp 5 = .ok (.ifnull 19, 3) := by decide +kernel
theorem dX1_stepsUp_8 : decode cX1_stepsUp 8 = .ok (.aload_n 3, 1) := by decide +kernel
theorem dX1_stepsUp_9 : decode cX1_stepsUp 9 = .ok (.aload_n 1, 1) := by decide +kernel
theorem dX1_stepsUp_10 : decode cX1_stepsUp 10 = .ok (.if_acmp .eq 14, 3) := by decide +kernel
theorem dX1_stepsUp_13 : decode cX1_stepsUp 13 = .ok (.iinc 2 1, 3) := by decide +kernel
theorem dX1_stepsUp_16 : decode cX1_stepsUp 16 = .ok (.aload_n 3, 1) := by decide +kernel
theorem dX1_stepsUp_17 : decode cX1_stepsUp 17 = .ok (.getfield 130, 3) := by decide +kernel
theorem dX1_stepsUp_20 : decode cX1_stepsUp 20 = .ok (.astore_n 3, 1) := by decide +kernel
theorem dX1_stepsUp_21 : decode cX1_stepsUp 21 = .ok (.goto (-17), 3) := by decide +kernel
theorem dX1_stepsUp_24 : decode cX1_stepsUp 24 = .ok (.iload_n 2, 1) := by decide +kernel
theorem dX1_stepsUp_25 : decode cX1_stepsUp 25 = .ok (.ireturn, 1) := by decide +kernel
set_option maxRecDepth 20000 in
theorem ggX1_crookedCompanies_X1_inLine : GoodIn wsX1_crookedCompanies wsX1_inLine := goodIn_r _ [6, 1, 7, 20, 21, 22, 23, 24, 25] (by decide +kernel) (by decide +kernel)
set_option maxRecDepth 20000 in
theorem gX1_crookedCompanies_X1_inLine : GoodIn wsX1_crookedCompanies (wsV RX1 92 RX1 yX1_inLine wsX1_inLine) := goodIn_app (goodIn_of _ (by decide +kernel)) ggX1_crookedCompanies_X1_inLine
set_option maxRecDepth 20000 in
theorem ggX1_crookedCompanies_X0_hasCrookedCompany : GoodIn wsX1_crookedCompanies wsX0_hasCrookedCompany := goodIn_r _ [12, 13, 14, 15, 5, 16, 17, 18, 19, 26, 27, 28, 29, 30] (by decide +kernel) (by decide +kernel)
set_option maxRecDepth 20000 in
theorem gX1_crookedCompanies_X0_hasCrookedCompany : GoodIn wsX1_crookedCompanies (wsV RX1 174 RX0 yX0_hasCrookedCompany wsX0_hasCrookedCompany) := goodIn_app (goodIn_of _ (by decide +kernel)) ggX1_crookedCompanies_X0_hasCrookedCompany
theorem dX1_crookedCompanies_0 : decode cX1_crookedCompanies 0 = .ok (.iconst 0, 1) := by decide +kernel
theorem dX1_crookedCompanies_1 : decode cX1_crookedCompanies 1 = .ok (.istore_n 1, 1) := by decide +kernel
theorem dX1_crookedCompanies_2 : decode cX1_crookedCompanies 2 = .ok (.iconst 0, 1) := by decide +kernel
theorem dX1_crookedCompanies_3 : decode cX1_crookedCompanies 3 = .ok (.istore_n 2, 1) := by decide +kernel
theorem dX1_crookedCompanies_4 : decode cX1_crookedCompanies 4 = .ok (.iload_n 2, 1) := by decide +kernel
theorem dX1_crookedCompanies_5 : decode cX1_crookedCompanies 5 = .ok (.aload_n 0, 1) := by decide +kernel
theorem dX1_crookedCompanies_6 : decode cX1_crookedCompanies 6 = .ok (.getfield 19, 3) := by decide +kernel
theorem dX1_crookedCompanies_9 : decode cX1_crookedCompanies 9 = .ok (.if_icmp .ge 29, 3) := by decide +kernel
theorem dX1_crookedCompanies_12 : decode cX1_crookedCompanies 12 = .ok (.aload_n 0, 1) := by decide +kernel
theorem dX1_crookedCompanies_13 : decode cX1_crookedCompanies 13 = .ok (.iload_n 2, 1) := by decide +kernel
theorem dX1_crookedCompanies_14 : decode cX1_crookedCompanies 14 = .ok (.invokevirtual 92, 3) := by decide +kernel
theorem dX1_crookedCompanies_17 : decode cX1_crookedCompanies 17 = .ok (.astore_n 3, 1) := by decide +kernel
theorem dX1_crookedCompanies_18 : decode cX1_crookedCompanies 18 = .ok (.aload_n 3, 1) := by decide +kernel
theorem dX1_crookedCompanies_19 : decode cX1_crookedCompanies 19 = .ok (.ifnull 13, 3) := by decide +kernel
theorem dX1_crookedCompanies_22 : decode cX1_crookedCompanies 22 = .ok (.aload_n 3, 1) := by decide +kernel
theorem dX1_crookedCompanies_23 : decode cX1_crookedCompanies 23 = .ok (.invokevirtual 174, 3) := by decide +kernel
theorem dX1_crookedCompanies_26 : decode cX1_crookedCompanies 26 = .ok (.ifCond .eq 6, 3) := by decide +kernel
theorem dX1_crookedCompanies_29 : decode cX1_crookedCompanies 29 = .ok (.iinc 1 1, 3) := by decide +kernel
theorem dX1_crookedCompanies_32 : decode cX1_crookedCompanies 32 = .ok (.iinc 2 1, 3) := by decide +kernel
theorem dX1_crookedCompanies_35 : decode cX1_crookedCompanies 35 = .ok (.goto (-31), 3) := by decide +kernel
theorem dX1_crookedCompanies_38 : decode cX1_crookedCompanies 38 = .ok (.iload_n 1, 1) := by decide +kernel
theorem dX1_crookedCompanies_39 : decode cX1_crookedCompanies 39 = .ok (.ireturn, 1) := by decide +kernel
theorem dX2_init_0 : decode cX2_init 0 = .ok (.aload_n 0, 1) := by decide +kernel
theorem dX2_init_1 : decode cX2_init 1 = .ok (.invokespecial 1, 3) := by decide +kernel
theorem dX2_init_4 : decode cX2_init 4 = .ok (.aload_n 0, 1) := by decide +kernel
theorem dX2_init_5 : decode cX2_init 5 = .ok (.iconst (-1), 1) := by decide +kernel
theorem dX2_init_6 : decode cX2_init 6 = .ok (.putfield 9, 3) := by decide +kernel
theorem dX2_init_9 : decode cX2_init 9 = .ok (.aload_n 0, 1) := by decide +kernel
theorem dX2_init_10 : decode cX2_init 10 = .ok (.sipush 1000, 3) := by decide +kernel
theorem dX2_init_13 : decode cX2_init 13 = .ok (.newarray .boolean, 2) := by decide +kernel
theorem dX2_init_15 : decode cX2_init 15 = .ok (.putfield 13, 3) := by decide +kernel
theorem dX2_init_18 : decode cX2_init 18 = .ok (.aload_n 0, 1) := by decide +kernel
theorem dX2_init_19 : decode cX2_init 19 = .ok (.sipush 1000, 3) := by decide +kernel
theorem dX2_init_22 : decode cX2_init 22 = .ok (.newarray .int, 2) := by decide +kernel
theorem dX2_init_24 : decode cX2_init 24 = .ok (.putfield 17, 3) := by decide +kernel
theorem dX2_init_27 : decode cX2_init 27 = .ok (.aload_n 0, 1) := by decide +kernel
theorem dX2_init_28 : decode cX2_init 28 = .ok (.sipush 1000, 3) := by decide +kernel
theorem dX2_init_31 : decode cX2_init 31 = .ok (.newarray .int, 2) := by decide +kernel
theorem dX2_init_33 : decode cX2_init 33 = .ok (.putfield 21, 3) := by decide +kernel
theorem dX2_init_36 : decode cX2_init 36 = .ok (.aload_n 0, 1) := by decide +kernel
theorem dX2_init_37 : decode cX2_init 37 = .ok (.sipush 151, 3) := by decide +kernel
theorem dX2_init_40 : decode cX2_init 40 = .ok (.newarray .int, 2) := by decide +kernel
theorem dX2_init_42 : decode cX2_init 42 = .ok (.putfield 24, 3) := by decide +kernel
theorem dX2_init_45 : decode cX2_init 45 = .ok (.aload_n 0, 1) := by decide +kernel
theorem dX2_init_46 : decode cX2_init 46 = .ok (.sipush 150, 3) := by decide +kernel
theorem dX2_init_49 : decode cX2_init 49 = .ok (.newarray .int, 2) := by decide +kernel
theorem dX2_init_51 : decode cX2_init 51 = .ok (.putfield 27, 3) := by decide +kernel
theorem dX2_init_54 : decode cX2_init 54 = .ok (.return_, 1) := by decide +kernel
theorem dX2_thrown_0 : decode cX2_thrown 0 = .ok (.aload_n 0, 1) := by decide +kernel
theorem dX2_thrown_1 : decode cX2_thrown 1 = .ok (.getfield 30, 3) := by decide +kernel
theorem dX2_thrown_4 : decode cX2_thrown 4 = .ok (.ireturn, 1) := by decide +kernel
theorem dX2_no_0 : decode cX2_no 0 = .ok (.aload_n 0, 1) := by decide +kernel
theorem dX2_no_1 : decode cX2_no 1 = .ok (.iload_n 1, 1) := by decide +kernel
theorem dX2_no_2 : decode cX2_no 2 = .ok (.putfield 30, 3) := by decide +kernel
theorem dX2_no_5 : decode cX2_no 5 = .ok (.iconst 0, 1) := by decide +kernel
theorem dX2_no_6 : decode cX2_no 6 = .ok (.ireturn, 1) := by decide +kernel
theorem dX2_isHeight_0 : decode cX2_isHeight 0 = .ok (.iload_n 0, 1) := by decide +kernel
theorem dX2_isHeight_1 : decode cX2_isHeight 1 = .ok (.ifCond .lt 14, 3) := by decide +kernel
theorem dX2_isHeight_4 : decode cX2_isHeight 4 = .ok (.iload_n 0, 1) := by decide +kernel
theorem dX2_isHeight_5 : decode cX2_isHeight 5 = .ok (.sipush 1000, 3) := by decide +kernel
theorem dX2_isHeight_8 : decode cX2_isHeight 8 = .ok (.if_icmp .ge 7, 3) := by decide +kernel
theorem dX2_isHeight_11 : decode cX2_isHeight 11 = .ok (.iconst 1, 1) := by decide +kernel
theorem dX2_isHeight_12 : decode cX2_isHeight 12 = .ok (.goto 4, 3) := by decide +kernel
theorem dX2_isHeight_15 : decode cX2_isHeight 15 = .ok (.iconst 0, 1) := by decide +kernel
theorem dX2_isHeight_16 : decode cX2_isHeight 16 = .ok (.ireturn, 1) := by decide +kernel
theorem dX2_goTo_0 : decode cX2_goTo 0 = .ok (.aload_n 0, 1) := by decide +kernel
theorem dX2_goTo_1 : decode cX2_goTo 1 = .ok (.iconst 0, 1) := by decide +kernel
theorem dX2_goTo_2 : decode cX2_goTo 2 = .ok (.putfield 33, 3) := by decide +kernel
theorem dX2_goTo_5 : decode cX2_goTo 5 = .ok (.aload_n 0, 1) := by decide +kernel
theorem dX2_goTo_6 : decode cX2_goTo 6 = .ok (.getfield 9, 3) := by decide +kernel
theorem dX2_goTo_9 : decode cX2_goTo 9 = .ok (.istore_n 2, 1) := by decide +kernel
theorem dX2_goTo_10 : decode cX2_goTo 10 = .ok (.iload_n 2, 1) := by decide +kernel
theorem dX2_goTo_11 : decode cX2_goTo 11 = .ok (.iconst (-1), 1) := by decide +kernel
theorem dX2_goTo_12 : decode cX2_goTo 12 = .ok (.if_icmp .eq 56, 3) := by decide +kernel
theorem dX2_goTo_15 : decode cX2_goTo 15 = .ok (.aload_n 0, 1) := by decide +kernel
theorem dX2_goTo_16 : decode cX2_goTo 16 = .ok (.getfield 24, 3) := by decide +kernel
theorem dX2_goTo_19 : decode cX2_goTo 19 = .ok (.aload_n 0, 1) := by decide +kernel
theorem dX2_goTo_20 : decode cX2_goTo 20 = .ok (.getfield 33, 3) := by decide +kernel
theorem dX2_goTo_23 : decode cX2_goTo 23 = .ok (.iload_n 2, 1) := by decide +kernel
theorem dX2_goTo_24 : decode cX2_goTo 24 = .ok (.iastore, 1) := by decide +kernel
theorem dX2_goTo_25 : decode cX2_goTo 25 = .ok (.aload_n 0, 1) := by decide +kernel
theorem dX2_goTo_26 : decode cX2_goTo 26 = .ok (.dup, 1) := by decide +kernel
theorem dX2_goTo_27 : decode cX2_goTo 27 = .ok (.getfield 33, 3) := by decide +kernel
theorem dX2_goTo_30 : decode cX2_goTo 30 = .ok (.iconst 1, 1) := by decide +kernel
theorem dX2_goTo_31 : decode cX2_goTo 31 = .ok (.iadd, 1) := by decide +kernel
theorem dX2_goTo_32 : decode cX2_goTo 32 = .ok (.putfield 33, 3) := by decide +kernel
theorem dX2_goTo_35 : decode cX2_goTo 35 = .ok (.iload_n 1, 1) := by decide +kernel
theorem dX2_goTo_36 : decode cX2_goTo 36 = .ok (.iload_n 2, 1) := by decide +kernel
theorem dX2_goTo_37 : decode cX2_goTo 37 = .ok (.if_icmp .ne 7, 3) := by decide +kernel
theorem dX2_goTo_40 : decode cX2_goTo 40 = .ok (.iconst (-1), 1) := by decide +kernel
theorem dX2_goTo_41 : decode cX2_goTo 41 = .ok (.goto 23, 3) := by decide +kernel
theorem dX2_goTo_44 : decode cX2_goTo 44 = .ok (.iload_n 1, 1) := by decide +kernel
theorem dX2_goTo_45 : decode cX2_goTo 45 = .ok (.iload_n 2, 1) := by decide +kernel
theorem dX2_goTo_46 : decode cX2_goTo 46 = .ok (.if_icmp .ge 12, 3) := by decide +kernel
theorem dX2_goTo_49 : decode cX2_goTo 49 = .ok (.aload_n 0, 1) := by decide +kernel
theorem dX2_goTo_50 : decode cX2_goTo 50 = .ok (.getfield 17, 3) := by decide +kernel
theorem dX2_goTo_53 : decode cX2_goTo 53 = .ok (.iload_n 2, 1) := by decide +kernel
theorem dX2_goTo_54 : decode cX2_goTo 54 = .ok (.iaload, 1) := by decide +kernel
theorem dX2_goTo_55 : decode cX2_goTo 55 = .ok (.goto 9, 3) := by decide +kernel
theorem dX2_goTo_58 : decode cX2_goTo 58 = .ok (.aload_n 0, 1) := by decide +kernel
theorem dX2_goTo_59 : decode cX2_goTo 59 = .ok (.getfield 21, 3) := by decide +kernel
theorem dX2_goTo_62 : decode cX2_goTo 62 = .ok (.iload_n 2, 1) := by decide +kernel
theorem dX2_goTo_63 : decode cX2_goTo 63 = .ok (.iaload, 1) := by decide +kernel
theorem dX2_goTo_64 : decode cX2_goTo 64 = .ok (.istore_n 2, 1) := by decide +kernel
theorem dX2_goTo_65 : decode cX2_goTo 65 = .ok (.goto (-55), 3) := by decide +kernel
theorem dX2_goTo_68 : decode cX2_goTo 68 = .ok (.return_, 1) := by decide +kernel
set_option maxRecDepth 20000 in
theorem ggX2_size_X2_size : GoodIn wsX2_size wsX2_size := goodIn_r _ [0, 1, 2, 3, 4, 5, 6, 7, 8, 9, 10, 11, 12, 13, 14, 15, 16, 17, 18, 19] (by decide +kernel) (by decide +kernel)
set_option maxRecDepth 20000 in
theorem gX2_size_X2_size : GoodIn wsX2_size (wsV RX2 36 RX2 yX2_size wsX2_size) := goodIn_app (goodIn_of _ (by decide +kernel)) ggX2_size_X2_size
theorem dX2_size_0 : decode cX2_size 0 = .ok (.iload_n 1, 1) := by decide +kernel
theorem dX2_size_1 : decode cX2_size 1 = .ok (.iconst (-1), 1) := by decide +kernel
theorem dX2_size_2 : decode cX2_size 2 = .ok (.if_icmp .ne 7, 3) := by decide +kernel
theorem dX2_size_5 : decode cX2_size 5 = .ok (.iconst 0, 1) := by decide +kernel
theorem dX2_size_6 : decode cX2_size 6 = .ok (.goto 26, 3) := by decide +kernel
theorem dX2_size_9 : decode cX2_size 9 = .ok (.iconst 1, 1) := by decide +kernel
theorem dX2_size_10 : decode cX2_size 10 = .ok (.aload_n 0, 1) := by decide +kernel
theorem dX2_size_11 : decode cX2_size 11 = .ok (.aload_n 0, 1) := by decide +kernel
theorem dX2_size_12 : decode cX2_size 12 = .ok (.getfield 17, 3) := by decide +kernel
theorem dX2_size_15 : decode cX2_size 15 = .ok (.iload_n 1, 1) := by decide +kernel
theorem dX2_size_16 : decode cX2_size 16 = .ok (.iaload, 1) := by decide +kernel
theorem dX2_size_17 : decode cX2_size 17 = .ok (.invokevirtual 36, 3) := by decide +kernel
theorem dX2_size_20 : decode cX2_size 20 = .ok (.iadd, 1) := by decide +kernel
theorem dX2_size_21 : decode cX2_size 21 = .ok (.aload_n 0, 1) := by decide +kernel
theorem dX2_size_22 : decode cX2_size 22 = .ok (.aload_n 0, 1) := by decide +kernel
theorem dX2_size_23 : decode cX2_size 23 = .ok (.getfield 21, 3) := by decide +kernel
theorem dX2_size_26 : decode cX2_size 26 = .ok (.iload_n 1, 1) := by decide +kernel
theorem dX2_size_27 : decode cX2_size 27 = .ok (.iaload, 1) := by decide +kernel
theorem dX2_size_28 : decode cX2_size 28 = .ok (.invokevirtual 36, 3) := by decide +kernel
theorem dX2_size_31 : decode cX2_size 31 = .ok (.iadd, 1) := by decide +kernel
theorem dX2_size_32 : decode cX2_size 32 = .ok (.ireturn, 1) := by decide +kernel
set_option maxRecDepth 20000 in
theorem ggX2_deep_X2_deep : GoodIn wsX2_deep wsX2_deep := goodIn_r _ [0, 1, 2, 3, 4, 5, 6, 7, 8, 9, 10, 11, 12, 13, 14, 15, 16, 17, 18, 19, 20, 21, 22, 23] (by decide +kernel) (by decide +kernel)
set_option maxRecDepth 20000 in
theorem gX2_deep_X2_deep : GoodIn wsX2_deep (wsV RX2 40 RX2 yX2_deep wsX2_deep) := goodIn_app (goodIn_of _ (by decide +kernel)) ggX2_deep_X2_deep
theorem dX2_deep_0 : decode cX2_deep 0 = .ok (.iload_n 1, 1) := by decide +kernel
theorem dX2_deep_1 : decode cX2_deep 1 = .ok (.iconst (-1), 1) := by decide +kernel
theorem dX2_deep_2 : decode cX2_deep 2 = .ok (.if_icmp .ne 7, 3) := by decide +kernel
theorem dX2_deep_5 : decode cX2_deep 5 = .ok (.iconst (-1), 1) := by decide +kernel
theorem dX2_deep_6 : decode cX2_deep 6 = .ok (.goto 28, 3) := by decide +kernel
theorem dX2_deep_9 : decode cX2_deep 9 = .ok (.iconst 1, 1) := by decide +kernel
theorem dX2_deep_10 : decode cX2_deep 10 = .ok (.aload_n 0, 1) := by decide +kernel
theorem dX2_deep_11 : decode cX2_deep 11 = .ok (.aload_n 0, 1) := by decide +kernel
theorem dX2_deep_12 : decode cX2_deep 12 = .ok (.getfield 17, 3) := by decide +kernel
theorem dX2_deep_15 : decode cX2_deep 15 = .ok (.iload_n 1, 1) := by decide +kernel
theorem dX2_deep_16 : decode cX2_deep 16 = .ok (.iaload, 1) := by decide +kernel
theorem dX2_deep_17 : decode cX2_deep 17 = .ok (.invokevirtual 40, 3) := by decide +kernel
theorem dX2_deep_20 : decode cX2_deep 20 = .ok (.aload_n 0, 1) := by decide +kernel
theorem dX2_deep_21 : decode cX2_deep 21 = .ok (.aload_n 0, 1) := by decide +kernel
theorem dX2_deep_22 : decode cX2_deep 22 = .ok (.getfield 21, 3) := by decide +kernel
theorem dX2_deep_25 : decode cX2_deep 25 = .ok (.iload_n 1, 1) := by decide +kernel
theorem dX2_deep_26 : decode cX2_deep 26 = .ok (.iaload, 1) := by decide +kernel
theorem dX2_deep_27 : decode cX2_deep 27 = .ok (.invokevirtual 40, 3) := by decide +kernel
theorem dX2_deep_30 : decode cX2_deep 30 = .ok (.invokestatic 43, 3) := by decide +kernel
theorem dX2_deep_33 : decode cX2_deep 33 = .ok (.iadd, 1) := by decide +kernel
theorem dX2_deep_34 : decode cX2_deep 34 = .ok (.ireturn, 1) := by decide +kernel
theorem dX2_isCrooked_0 : decode cX2_isCrooked 0 = .ok (.iconst 3, 1) := by decide +kernel
theorem dX2_isCrooked_1 : decode cX2_isCrooked 1 = .ok (.iload_n 0, 1) := by decide +kernel
theorem dX2_isCrooked_2 : decode cX2_isCrooked 2 = .ok (.iload_n 1, 1) := by decide +kernel
theorem dX2_isCrooked_3 : decode cX2_isCrooked 3 = .ok (.invokestatic 43, 3) := by decide +kernel
theorem dX2_isCrooked_6 : decode cX2_isCrooked 6 = .ok (.imul, 1) := by decide +kernel
theorem dX2_isCrooked_7 : decode cX2_isCrooked 7 = .ok (.iconst 2, 1) := by decide +kernel
theorem dX2_isCrooked_8 : decode cX2_isCrooked 8 = .ok (.iload_n 0, 1) := by decide +kernel
theorem dX2_isCrooked_9 : decode cX2_isCrooked 9 = .ok (.iload_n 1, 1) := by decide +kernel
theorem dX2_isCrooked_10 : decode cX2_isCrooked 10 = .ok (.iadd, 1) := by decide +kernel
theorem dX2_isCrooked_11 : decode cX2_isCrooked 11 = .ok (.iconst 1, 1) := by decide +kernel
theorem dX2_isCrooked_12 : decode cX2_isCrooked 12 = .ok (.iadd, 1) := by decide +kernel
theorem dX2_isCrooked_13 : decode cX2_isCrooked 13 = .ok (.imul, 1) := by decide +kernel
theorem dX2_isCrooked_14 : decode cX2_isCrooked 14 = .ok (.if_icmp .le 7, 3) := by decide +kernel
theorem dX2_isCrooked_17 : decode cX2_isCrooked 17 = .ok (.iconst 1, 1) := by decide +kernel
theorem dX2_isCrooked_18 : decode cX2_isCrooked 18 = .ok (.goto 4, 3) := by decide +kernel
theorem dX2_isCrooked_21 : decode cX2_isCrooked 21 = .ok (.iconst 0, 1) := by decide +kernel
theorem dX2_isCrooked_22 : decode cX2_isCrooked 22 = .ok (.ireturn, 1) := by decide +kernel
set_option maxRecDepth 20000 in
theorem ggX2_isCrooked__X2_size : GoodIn wsX2_isCrooked_ wsX2_size := goodIn_r _ [7, 1, 2, 3, 4, 5, 6, 15, 16, 17, 18, 19, 20, 21, 22, 23, 24, 25, 26, 27] (by decide +kernel) (by decide +kernel)
set_option maxRecDepth 20000 in
theorem gX2_isCrooked__X2_size : GoodIn wsX2_isCrooked_ (wsV RX2 36 RX2 yX2_size wsX2_size) := goodIn_app (goodIn_of _ (by decide +kernel)) ggX2_isCrooked__X2_size
set_option maxRecDepth 20000 in
theorem ggX2_isCrooked__X2_isCrooked : GoodIn wsX2_isCrooked_ wsX2_isCrooked := goodIn_r _ [10, 11, 12, 13, 14] (by decide +kernel) (by decide +kernel)
set_option maxRecDepth 20000 in
theorem gX2_isCrooked__X2_isCrooked : GoodIn wsX2_isCrooked_ (va_wsS RX2 49 yX2_isCrooked wsX2_isCrooked) := goodIn_app (goodIn_of _ (by decide +kernel)) ggX2_isCrooked__X2_isCrooked
theorem dX2_isCrooked__0 : decode cX2_isCrooked_ 0 = .ok (.aload_n 0, 1) := by decide +kernel
theorem dX2_isCrooked__1 : decode cX2_isCrooked_ 1 = .ok (.aload_n 0, 1) := by decide +kernel
theorem dX2_isCrooked__2 : decode cX2_isCrooked_ 2 = .ok (.getfield 17, 3) := by decide +kernel
theorem dX2_isCrooked__5 : decode cX2_isCrooked_ 5 = .ok (.iload_n 1, 1) := by decide +kernel
theorem dX2_isCrooked__6 : decode cX2_isCrooked_ 6 = .ok (.iaload, 1) := by decide +kernel
theorem dX2_isCrooked__7 : decode cX2_isCrooked_ 7 = .ok (.invokevirtual 36, 3) := by decide +kernel
theorem dX2_isCrooked__10 : decode cX2_isCrooked_ 10 = .ok (.aload_n 0, 1) := by decide +kernel
theorem dX2_isCrooked__11 : decode cX2_isCrooked_ 11 = .ok (.aload_n 0, 1) := by decide +kernel
theorem dX2_isCrooked__12 : decode cX2_isCrooked_ 12 = .ok (.getfield 21, 3) := by decide +kernel
theorem dX2_isCrooked__15 : decode cX2_isCrooked_ 15 = .ok (.iload_n 1, 1) := by decide +kernel
theorem dX2_isCrooked__16 : decode cX2_isCrooked_ 16 = .ok (.iaload, 1) := by decide +kernel
theorem dX2_isCrooked__17 : decode cX2_isCrooked_ 17 = .ok (.invokevirtual 36, 3) := by decide +kernel
theorem dX2_isCrooked__20 : decode cX2_isCrooked_ 20 = .ok (.invokestatic 49, 3) := by decide +kernel
theorem dX2_isCrooked__23 : decode cX2_isCrooked_ 23 = .ok (.ireturn, 1) := by decide +kernel
set_option maxRecDepth 20000 in
theorem ggX2_crookedIn_X2_isCrooked_ : GoodIn wsX2_crookedIn wsX2_isCrooked_ := goodIn_r _ [7, 1, 2, 8, 9, 10, 6, 11, 12, 13, 14, 15, 16, 17, 18, 22, 23, 24, 25, 26, 27, 28, 29, 30, 31, 32, 33, 34] (by decide +kernel) (by decide +kernel)
set_option maxRecDepth 20000 in
theorem gX2_crookedIn_X2_isCrooked_ : GoodIn wsX2_crookedIn (wsV RX2 53 RX2 yX2_isCrooked_ wsX2_isCrooked_) := goodIn_app (goodIn_of _ (by decide +kernel)) ggX2_crookedIn_X2_isCrooked_
set_option maxRecDepth 20000 in
theorem ggX2_crookedIn_X2_crookedIn : GoodIn wsX2_crookedIn wsX2_crookedIn := goodIn_r _ [0, 1, 2, 3, 4, 5, 6, 7, 8, 9, 10, 11, 12, 13, 14, 15, 16, 17, 18, 19, 20, 21, 22, 23, 24, 25, 26, 27, 28, 29, 30, 31, 32, 33, 34] (by decide +kernel) (by decide +kernel)
set_option maxRecDepth 20000 in
theorem gX2_crookedIn_X2_crookedIn : GoodIn wsX2_crookedIn (wsV RX2 56 RX2 yX2_crookedIn wsX2_crookedIn) := goodIn_app (goodIn_of _ (by decide +kernel)) ggX2_crookedIn_X2_crookedIn
theorem dX2_crookedIn_0 : decode cX2_crookedIn 0 = .ok (.iload_n 1, 1) := by decide +kernel
theorem dX2_crookedIn_1 : decode cX2_crookedIn 1 = .ok (.iconst (-1), 1) := by decide +kernel
theorem dX2_crookedIn_2 : decode cX2_crookedIn 2 = .ok (.if_icmp .ne 7, 3) := by decide +kernel
theorem dX2_crookedIn_5 : decode cX2_crookedIn 5 = .ok (.iconst 0, 1) := by decide +kernel
theorem dX2_crookedIn_6 : decode cX2_crookedIn 6 = .ok (.goto 38, 3) := by decide +kernel
theorem dX2_crookedIn_9 : decode cX2_crookedIn 9 = .ok (.aload_n 0, 1) := by decide +kernel
theorem dX2_crookedIn_10 : decode cX2_crookedIn 10 = .ok (.iload_n 1, 1) := by decide +kernel
theorem dX2_crookedIn_11 : decode cX2_crookedIn 11 = .ok (.invokevirtual 53, 3) := by decide +kernel
theorem dX2_crookedIn_14 : decode cX2_crookedIn 14 = .ok (.ifCond .eq 7, 3) := by decide +kernel
theorem dX2_crookedIn_17 : decode cX2_crookedIn 17 = .ok (.iconst 1, 1) := by decide +kernel
theorem dX2_crookedIn_18 : decode cX2_crookedIn 18 = .ok (.goto 4, 3) := by decide +kernel
theorem dX2_crookedIn_21 : decode cX2_crookedIn 21 = .ok (.iconst 0, 1) := by decide +kernel
theorem dX2_crookedIn_22 : decode cX2_crookedIn 22 = .ok (.aload_n 0, 1) := by decide +kernel
theorem dX2_crookedIn_23 : decode cX2_crookedIn 23 = .ok (.aload_n 0, 1) := by decide +kernel
theorem dX2_crookedIn_24 : decode cX2_crookedIn 24 = .ok (.getfield 17, 3) := by decide +kernel
theorem dX2_crookedIn_27 : decode cX2_crookedIn 27 = .ok (.iload_n 1, 1) := by decide +kernel
theorem dX2_crookedIn_28 : decode cX2_crookedIn 28 = .ok (.iaload, 1) := by decide +kernel
theorem dX2_crookedIn_29 : decode cX2_crookedIn 29 = .ok (.invokevirtual 56, 3) := by decide +kernel
theorem dX2_crookedIn_32 : decode cX2_crookedIn 32 = .ok (.iadd, 1) := by decide +kernel
theorem dX2_crookedIn_33 : decode cX2_crookedIn 33 = .ok (.aload_n 0, 1) := by decide +kernel
theorem dX2_crookedIn_34 : decode cX2_crookedIn 34 = .ok (.aload_n 0, 1) := by decide +kernel
theorem dX2_crookedIn_35 : decode cX2_crookedIn 35 = .ok (.getfield 21, 3) := by decide +kernel
theorem dX2_crookedIn_38 : decode cX2_crookedIn 38 = .ok (.iload_n 1, 1) := by decide +kernel
theorem dX2_crookedIn_39 : decode cX2_crookedIn 39 = .ok (.iaload, 1) := by decide +kernel
theorem dX2_crookedIn_40 : decode cX2_crookedIn 40 = .ok (.invokevirtual 56, 3) := by decide +kernel
theorem dX2_crookedIn_43 : decode cX2_crookedIn 43 = .ok (.iadd, 1) := by decide +kernel
theorem dX2_crookedIn_44 : decode cX2_crookedIn 44 = .ok (.ireturn, 1) := by decide +kernel
set_option maxRecDepth 20000 in
theorem ggX2_depthsIn_X2_depthsIn : GoodIn wsX2_depthsIn wsX2_depthsIn := goodIn_r _ [0, 1, 2, 3, 4, 5, 6, 7, 8, 9, 10, 11, 12, 13, 14, 15, 16, 17, 18, 19] (by decide +kernel) (by decide +kernel)
set_option maxRecDepth 20000 in
theorem gX2_depthsIn_X2_depthsIn : GoodIn wsX2_depthsIn (wsV RX2 59 RX2 yX2_depthsIn wsX2_depthsIn) := goodIn_app (goodIn_of _ (by decide +kernel)) ggX2_depthsIn_X2_depthsIn
theorem dX2_depthsIn_0 : decode cX2_depthsIn 0 = .ok (.iload_n 1, 1) := by decide +kernel
theorem dX2_depthsIn_1 : decode cX2_depthsIn 1 = .ok (.iconst (-1), 1) := by decide +kernel
theorem dX2_depthsIn_2 : decode cX2_depthsIn 2 = .ok (.if_icmp .ne 7, 3) := by decide +kernel
theorem dX2_depthsIn_5 : decode cX2_depthsIn 5 = .ok (.lconst 0, 1) := by decide +kernel
theorem dX2_depthsIn_6 : decode cX2_depthsIn 6 = .ok (.goto 33, 3) := by decide +kernel
theorem dX2_depthsIn_9 : decode cX2_depthsIn 9 = .ok (.iload_n 2, 1) := by decide +kernel
theorem dX2_depthsIn_10 : decode cX2_depthsIn 10 = .ok (.i2l, 1) := by decide +kernel
theorem dX2_depthsIn_11 : decode cX2_depthsIn 11 = .ok (.aload_n 0, 1) := by decide +kernel
theorem dX2_depthsIn_12 : decode cX2_depthsIn 12 = .ok (.aload_n 0, 1) := by decide +kernel
theorem dX2_depthsIn_13 : decode cX2_depthsIn 13 = .ok (.getfield 17, 3) := by decide +kernel
theorem dX2_depthsIn_16 : decode cX2_depthsIn 16 = .ok (.iload_n 1, 1) := by decide +kernel
theorem dX2_depthsIn_17 : decode cX2_depthsIn 17 = .ok (.iaload, 1) := by decide +kernel
theorem dX2_depthsIn_18 : decode cX2_depthsIn 18 = .ok (.iload_n 2, 1) := by decide +kernel
theorem dX2_depthsIn_19 : decode cX2_depthsIn 19 = .ok (.iconst 1, 1) := by decide +kernel
theorem dX2_depthsIn_20 : decode cX2_depthsIn 20 = .ok (.iadd, 1) := by decide +kernel
theorem dX2_depthsIn_21 : decode cX2_depthsIn 21 = .ok (.invokevirtual 59, 3) := by decide +kernel
theorem dX2_depthsIn_24 : decode cX2_depthsIn 24 = .ok (.ladd, 1) := by decide +kernel
theorem dX2_depthsIn_25 : decode cX2_depthsIn 25 = .ok (.aload_n 0, 1) := by decide +kernel
theorem dX2_depthsIn_26 : decode cX2_depthsIn 26 = .ok (.aload_n 0, 1) := by decide +kernel
theorem dX2_depthsIn_27 : decode cX2_depthsIn 27 = .ok (.getfield 21, 3) := by decide +kernel
theorem dX2_depthsIn_30 : decode cX2_depthsIn 30 = .ok (.iload_n 1, 1) := by decide +kernel
theorem dX2_depthsIn_31 : decode cX2_depthsIn 31 = .ok (.iaload, 1) := by decide +kernel
theorem dX2_depthsIn_32 : decode cX2_depthsIn 32 = .ok (.iload_n 2, 1) := by decide +kernel
theorem dX2_depthsIn_33 : decode cX2_depthsIn 33 = .ok (.iconst 1, 1) := by decide +kernel
theorem dX2_depthsIn_34 : decode cX2_depthsIn 34 = .ok (.iadd, 1) := by decide +kernel
theorem dX2_depthsIn_35 : decode cX2_depthsIn 35 = .ok (.invokevirtual 59, 3) := by decide +kernel
theorem dX2_depthsIn_38 : decode cX2_depthsIn 38 = .ok (.ladd, 1) := by decide +kernel
theorem dX2_depthsIn_39 : decode cX2_depthsIn 39 = .ok (.lreturn, 1) := by decide +kernel
theorem dX2_allowed_0 : decode cX2_allowed 0 = .ok (.iconst (-1), 1) := by decide +kernel
theorem dX2_allowed_1 : decode cX2_allowed 1 = .ok (.istore_n 1, 1) := by decide +kernel
theorem dX2_allowed_2 : decode cX2_allowed 2 = .ok (.lconst 1, 1) := by decide +kernel
theorem dX2_allowed_3 : decode cX2_allowed 3 = .ok (.lstore_n 2, 1) := by decide +kernel
theorem dX2_allowed_4 : decode cX2_allowed 4 = .ok (.iload_n 0, 1) := by decide +kernel
theorem dX2_allowed_5 : decode cX2_allowed 5 = .ok (.i2l, 1) := by decide +kernel
theorem dX2_allowed_6 : decode cX2_allowed 6 = .ok (.lstore 4, 2) := by decide +kernel
theorem dX2_allowed_8 : decode cX2_allowed 8 = .ok (.lload_n 2, 1) := by decide +kernel
theorem dX2_allowed_9 : decode cX2_allowed 9 = .ok (.lload 4, 2) := by decide +kernel
theorem dX2_allowed_11 : decode cX2_allowed 11 = .ok (.lcmp, 1) := by decide +kernel
theorem dX2_allowed_12 : decode cX2_allowed 12 = .ok (.ifCond .gt 23, 3) := by decide +kernel
theorem dX2_allowed_15 : decode cX2_allowed 15 = .ok (.iinc 1 1, 3) := by decide +kernel
theorem dX2_allowed_18 : decode cX2_allowed 18 = .ok (.lload_n 2, 1) := by decide +kernel
theorem dX2_allowed_19 : decode cX2_allowed 19 = .ok (.ldc2_w 63, 3) := by decide +kernel
theorem dX2_allowed_22 : decode cX2_allowed 22 = .ok (.lmul, 1) := by decide +kernel
theorem dX2_allowed_23 : decode cX2_allowed 23 = .ok (.lstore_n 2, 1) := by decide +kernel
theorem dX2_allowed_24 : decode cX2_allowed 24 = .ok (.lload 4, 2) := by decide +kernel
theorem dX2_allowed_26 : decode cX2_allowed 26 = .ok (.ldc2_w 65, 3) := by decide +kernel
theorem dX2_allowed_29 : decode cX2_allowed 29 = .ok (.lmul, 1) := by decide +kernel
theorem dX2_allowed_30 : decode cX2_allowed 30 = .ok (.lstore 4, 2) := by decide +kernel
theorem dX2_allowed_32 : decode cX2_allowed 32 = .ok (.goto (-24), 3) := by decide +kernel
theorem dX2_allowed_35 : decode cX2_allowed 35 = .ok (.iload_n 1, 1) := by decide +kernel
theorem dX2_allowed_36 : decode cX2_allowed 36 = .ok (.ireturn, 1) := by decide +kernel
set_option maxRecDepth 20000 in
theorem ggX2_collect_X2_collect : GoodIn wsX2_collect wsX2_collect := goodIn_r _ [0, 1, 2, 3, 4, 5, 6, 7, 8, 9, 10, 11, 12, 13, 14, 15, 16, 17, 18, 19, 20, 21] (by decide +kernel) (by decide +kernel)
set_option maxRecDepth 20000 in
theorem gX2_collect_X2_collect : GoodIn wsX2_collect (wsV RX2 67 RX2 yX2_collect wsX2_collect) := goodIn_app (goodIn_of _ (by decide +kernel)) ggX2_collect_X2_collect
theorem dX2_collect_0 : decode cX2_collect 0 = .ok (.iload_n 1, 1) := by decide +kernel
theorem dX2_collect_1 : decode cX2_collect 1 = .ok (.iconst (-1), 1) := by decide +kernel
theorem dX2_collect_2 : decode cX2_collect 2 = .ok (.if_icmp .ne 4, 3) := by decide +kernel
theorem dX2_collect_5 : decode cX2_collect 5 = .ok (.return_, 1) := by decide +kernel
theorem dX2_collect_6 : decode cX2_collect 6 = .ok (.aload_n 0, 1) := by decide +kernel
theorem dX2_collect_7 : decode cX2_collect 7 = .ok (.aload_n 0, 1) := by decide +kernel
theorem dX2_collect_8 : decode cX2_collect 8 = .ok (.getfield 17, 3) := by decide +kernel
theorem dX2_collect_11 : decode cX2_collect 11 = .ok (.iload_n 1, 1) := by decide +kernel
theorem dX2_collect_12 : decode cX2_collect 12 = .ok (.iaload, 1) := by decide +kernel
theorem dX2_collect_13 : decode cX2_collect 13 = .ok (.invokevirtual 67, 3) := by decide +kernel
theorem dX2_collect_16 : decode cX2_collect 16 = .ok (.aload_n 0, 1) := by decide +kernel
theorem dX2_collect_17 : decode cX2_collect 17 = .ok (.getfield 27, 3) := by decide +kernel
theorem dX2_collect_20 : decode cX2_collect 20 = .ok (.aload_n 0, 1) := by decide +kernel
theorem dX2_collect_21 : decode cX2_collect 21 = .ok (.getfield 71, 3) := by decide +kernel
theorem dX2_collect_24 : decode cX2_collect 24 = .ok (.iload_n 1, 1) := by decide +kernel
theorem dX2_collect_25 : decode cX2_collect 25 = .ok (.iastore, 1) := by decide +kernel
theorem dX2_collect_26 : decode cX2_collect 26 = .ok (.aload_n 0, 1) := by decide +kernel
theorem dX2_collect_27 : decode cX2_collect 27 = .ok (.dup, 1) := by decide +kernel
theorem dX2_collect_28 : decode cX2_collect 28 = .ok (.getfield 71, 3) := by decide +kernel
theorem dX2_collect_31 : decode cX2_collect 31 = .ok (.iconst 1, 1) := by decide +kernel
theorem dX2_collect_32 : decode cX2_collect 32 = .ok (.iadd, 1) := by decide +kernel
theorem dX2_collect_33 : decode cX2_collect 33 = .ok (.putfield 71, 3) := by decide +kernel
theorem dX2_collect_36 : decode cX2_collect 36 = .ok (.aload_n 0, 1) := by decide +kernel
theorem dX2_collect_37 : decode cX2_collect 37 = .ok (.aload_n 0, 1) := by decide +kernel
theorem dX2_collect_38 : decode cX2_collect 38 = .ok (.getfield 21, 3) := by decide +kernel
theorem dX2_collect_41 : decode cX2_collect 41 = .ok (.iload_n 1, 1) := by decide +kernel
theorem dX2_collect_42 : decode cX2_collect 42 = .ok (.iaload, 1) := by decide +kernel
theorem dX2_collect_43 : decode cX2_collect 43 = .ok (.invokevirtual 67, 3) := by decide +kernel
theorem dX2_collect_46 : decode cX2_collect 46 = .ok (.return_, 1) := by decide +kernel
set_option maxRecDepth 20000 in
theorem ggX2_halve_X2_halve : GoodIn wsX2_halve wsX2_halve := goodIn_r _ [0, 1, 2, 3, 4, 5, 6, 7, 8, 9, 10, 11, 12, 13, 14, 15, 16, 17, 18, 19, 20] (by decide +kernel) (by decide +kernel)
set_option maxRecDepth 20000 in
theorem gX2_halve_X2_halve : GoodIn wsX2_halve (wsV RX2 74 RX2 yX2_halve wsX2_halve) := goodIn_app (goodIn_of _ (by decide +kernel)) ggX2_halve_X2_halve
theorem dX2_halve_0 : decode cX2_halve 0 = .ok (.iload_n 1, 1) := by decide +kernel
theorem dX2_halve_1 : decode cX2_halve 1 = .ok (.iload_n 2, 1) := by decide +kernel
theorem dX2_halve_2 : decode cX2_halve 2 = .ok (.if_icmp .le 5, 3) := by decide +kernel
theorem dX2_halve_5 : decode cX2_halve 5 = .ok (.iconst (-1), 1) := by decide +kernel
theorem dX2_halve_6 : decode cX2_halve 6 = .ok (.ireturn, 1) := by decide +kernel
theorem dX2_halve_7 : decode cX2_halve 7 = .ok (.iload_n 1, 1) := by decide +kernel
theorem dX2_halve_8 : decode cX2_halve 8 = .ok (.iload_n 2, 1) := by decide +kernel
theorem dX2_halve_9 : decode cX2_halve 9 = .ok (.iload_n 1, 1) := by decide +kernel
theorem dX2_halve_10 : decode cX2_halve 10 = .ok (.isub, 1) := by decide +kernel
theorem dX2_halve_11 : decode cX2_halve 11 = .ok (.iconst 2, 1) := by decide +kernel
theorem dX2_halve_12 : decode cX2_halve 12 = .ok (.idiv, 1) := by decide +kernel
theorem dX2_halve_13 : decode cX2_halve 13 = .ok (.iadd, 1) := by decide +kernel
theorem dX2_halve_14 : decode cX2_halve 14 = .ok (.istore_n 3, 1) := by decide +kernel
theorem dX2_halve_15 : decode cX2_halve 15 = .ok (.aload_n 0, 1) := by decide +kernel
theorem dX2_halve_16 : decode cX2_halve 16 = .ok (.getfield 17, 3) := by decide +kernel
theorem dX2_halve_19 : decode cX2_halve 19 = .ok (.aload_n 0, 1) := by decide +kernel
theorem dX2_halve_20 : decode cX2_halve 20 = .ok (.getfield 27, 3) := by decide +kernel
theorem dX2_halve_23 : decode cX2_halve 23 = .ok (.iload_n 3, 1) := by decide +kernel
theorem dX2_halve_24 : decode cX2_halve 24 = .ok (.iaload, 1) := by decide +kernel
theorem dX2_halve_25 : decode cX2_halve 25 = .ok (.aload_n 0, 1) := by decide +kernel
theorem dX2_halve_26 : decode cX2_halve 26 = .ok (.iload_n 1, 1) := by decide +kernel
theorem dX2_halve_27 : decode cX2_halve 27 = .ok (.iload_n 3, 1) := by decide +kernel
theorem dX2_halve_28 : decode cX2_halve 28 = .ok (.iconst 1, 1) := by decide +kernel
theorem dX2_halve_29 : decode cX2_halve 29 = .ok (.isub, 1) := by decide +kernel
theorem dX2_halve_30 : decode cX2_halve 30 = .ok (.invokevirtual 74, 3) := by decide +kernel
theorem dX2_halve_33 : decode cX2_halve 33 = .ok (.iastore, 1) := by decide +kernel
theorem dX2_halve_34 : decode cX2_halve 34 = .ok (.aload_n 0, 1) := by decide +kernel
theorem dX2_halve_35 : decode cX2_halve 35 = .ok (.getfield 21, 3) := by decide +kernel
theorem dX2_halve_38 : decode cX2_halve 38 = .ok (.aload_n 0, 1) := by decide +kernel
theorem dX2_halve_39 : decode cX2_halve 39 = .ok (.getfield 27, 3) := by decide +kernel
theorem dX2_halve_42 : decode cX2_halve 42 = .ok (.iload_n 3, 1) := by decide +kernel
theorem dX2_halve_43 : decode cX2_halve 43 = .ok (.iaload, 1) := by decide +kernel
theorem dX2_halve_44 : decode cX2_halve 44 = .ok (.aload_n 0, 1) := by decide +kernel
theorem dX2_halve_45 : decode cX2_halve 45 = .ok (.iload_n 3, 1) := by decide +kernel
theorem dX2_halve_46 : decode cX2_halve 46 = .ok (.iconst 1, 1) := by decide +kernel
theorem dX2_halve_47 : decode cX2_halve 47 = .ok (.iadd, 1) := by decide +kernel
theorem dX2_halve_48 : decode cX2_halve 48 = .ok (.iload_n 2, 1) := by decide +kernel
theorem dX2_halve_49 : decode cX2_halve 49 = .ok (.invokevirtual 74, 3) := by decide +kernel
theorem dX2_halve_52 : decode cX2_halve 52 = .ok (.iastore, 1) := by decide +kernel
theorem dX2_halve_53 : decode cX2_halve 53 = .ok (.aload_n 0, 1) := by decide +kernel
theorem dX2_halve_54 : decode cX2_halve 54 = .ok (.getfield 27, 3) := by decide +kernel
theorem dX2_halve_57 : decode cX2_halve 57 = .ok (.iload_n 3, 1) := by decide +kernel
theorem dX2_halve_58 : decode cX2_halve 58 = .ok (.iaload, 1) := by decide +kernel
theorem dX2_halve_59 : decode cX2_halve 59 = .ok (.ireturn, 1) := by decide +kernel
theorem dX2_hang_0 : decode cX2_hang 0 = .ok (.iload_n 1, 1) := by decide +kernel
theorem dX2_hang_1 : decode cX2_hang 1 = .ok (.iconst (-1), 1) := by decide +kernel
theorem dX2_hang_2 : decode cX2_hang 2 = .ok (.if_icmp .ne 11, 3) := by decide +kernel
theorem dX2_hang_5 : decode cX2_hang 5 = .ok (.aload_n 0, 1) := by decide +kernel
theorem dX2_hang_6 : decode cX2_hang 6 = .ok (.iload_n 3, 1) := by decide +kernel
theorem dX2_hang_7 : decode cX2_hang 7 = .ok (.putfield 9, 3) := by decide +kernel
theorem dX2_hang_10 : decode cX2_hang 10 = .ok (.goto 25, 3) := by decide +kernel
theorem dX2_hang_13 : decode cX2_hang 13 = .ok (.iload_n 2, 1) := by decide +kernel
theorem dX2_hang_14 : decode cX2_hang 14 = .ok (.iload_n 1, 1) := by decide +kernel
theorem dX2_hang_15 : decode cX2_hang 15 = .ok (.if_icmp .ge 13, 3) := by decide +kernel
theorem dX2_hang_18 : decode cX2_hang 18 = .ok (.aload_n 0, 1) := by decide +kernel
theorem dX2_hang_19 : decode cX2_hang 19 = .ok (.getfield 17, 3) := by decide +kernel
theorem dX2_hang_22 : decode cX2_hang 22 = .ok (.iload_n 1, 1) := by decide +kernel
theorem dX2_hang_23 : decode cX2_hang 23 = .ok (.iload_n 3, 1) := by decide +kernel
theorem dX2_hang_24 : decode cX2_hang 24 = .ok (.iastore, 1) := by decide +kernel
theorem dX2_hang_25 : decode cX2_hang 25 = .ok (.goto 10, 3) := by decide +kernel
theorem dX2_hang_28 : decode cX2_hang 28 = .ok (.aload_n 0, 1) := by decide +kernel
theorem dX2_hang_29 : decode cX2_hang 29 = .ok (.getfield 21, 3) := by decide +kernel
theorem dX2_hang_32 : decode cX2_hang 32 = .ok (.iload_n 1, 1) := by decide +kernel
theorem dX2_hang_33 : decode cX2_hang 33 = .ok (.iload_n 3, 1) := by decide +kernel
theorem dX2_hang_34 : decode cX2_hang 34 = .ok (.iastore, 1) := by decide +kernel
theorem dX2_hang_35 : decode cX2_hang 35 = .ok (.return_, 1) := by decide +kernel
set_option maxRecDepth 20000 in
theorem ggX2_drawUp_X2_goTo : GoodIn wsX2_drawUp wsX2_goTo := goodIn_r _ [12, 1, 13, 2, 14, 15, 29, 30, 31, 32, 33, 34, 35, 36, 37, 38, 39, 40, 41] (by decide +kernel) (by decide +kernel)
set_option maxRecDepth 20000 in
theorem gX2_drawUp_X2_goTo : GoodIn wsX2_drawUp (wsV RX2 77 RX2 yX2_goTo wsX2_goTo) := goodIn_app (goodIn_of _ (by decide +kernel)) ggX2_drawUp_X2_goTo
set_option maxRecDepth 20000 in
theorem ggX2_drawUp_X2_collect : GoodIn wsX2_drawUp wsX2_collect := goodIn_r _ [19, 14, 20, 3, 15, 16, 17, 18, 11, 29, 30, 31, 32, 33, 34, 35, 36, 37, 38, 39, 40, 41] (by decide +kernel) (by decide +kernel)
set_option maxRecDepth 20000 in
theorem gX2_drawUp_X2_collect : GoodIn wsX2_drawUp (wsV RX2 67 RX2 yX2_collect wsX2_collect) := goodIn_app (goodIn_of _ (by decide +kernel)) ggX2_drawUp_X2_collect
set_option maxRecDepth 20000 in
theorem ggX2_drawUp_X2_halve : GoodIn wsX2_drawUp wsX2_halve := goodIn_r _ [24, 14, 20, 15, 21, 22, 23, 11, 29, 30, 31, 32, 33, 34, 35, 36, 37, 38, 39, 40, 41] (by decide +kernel) (by decide +kernel)
set_option maxRecDepth 20000 in
theorem gX2_drawUp_X2_halve : GoodIn wsX2_drawUp (wsV RX2 74 RX2 yX2_halve wsX2_halve) := goodIn_app (goodIn_of _ (by decide +kernel)) ggX2_drawUp_X2_halve
set_option maxRecDepth 20000 in
theorem ggX2_drawUp_X2_hang : GoodIn wsX2_drawUp wsX2_hang := goodIn_r _ [28, 13, 14, 15, 29, 30, 31, 32, 33, 34, 35, 36, 37, 38, 39, 40, 41] (by decide +kernel) (by decide +kernel)
set_option maxRecDepth 20000 in
theorem gX2_drawUp_X2_hang : GoodIn wsX2_drawUp (wsV RX2 80 RX2 yX2_hang wsX2_hang) := goodIn_app (goodIn_of _ (by decide +kernel)) ggX2_drawUp_X2_hang
theorem dX2_drawUp_0 : decode cX2_drawUp 0 = .ok (.aload_n 0, 1) := by decide +kernel
theorem dX2_drawUp_1 : decode cX2_drawUp 1 = .ok (.iload_n 1, 1) := by decide +kernel
theorem dX2_drawUp_2 : decode cX2_drawUp 2 = .ok (.invokevirtual 77, 3) := by decide +kernel
theorem dX2_drawUp_5 : decode cX2_drawUp 5 = .ok (.aload_n 0, 1) := by decide +kernel
theorem dX2_drawUp_6 : decode cX2_drawUp 6 = .ok (.getfield 33, 3) := by decide +kernel
theorem dX2_drawUp_9 : decode cX2_drawUp 9 = .ok (.iconst 1, 1) := by decide +kernel
theorem dX2_drawUp_10 : decode cX2_drawUp 10 = .ok (.if_icmp .le 17, 3) := by decide +kernel
theorem dX2_drawUp_13 : decode cX2_drawUp 13 = .ok (.aload_n 0, 1) := by decide +kernel
theorem dX2_drawUp_14 : decode cX2_drawUp 14 = .ok (.getfield 24, 3) := by decide +kernel
theorem dX2_drawUp_17 : decode cX2_drawUp 17 = .ok (.aload_n 0, 1) := by decide +kernel
theorem dX2_drawUp_18 : decode cX2_drawUp 18 = .ok (.getfield 33, 3) := by decide +kernel
theorem dX2_drawUp_21 : decode cX2_drawUp 21 = .ok (.iconst 2, 1) := by decide +kernel
theorem dX2_drawUp_22 : decode cX2_drawUp 22 = .ok (.isub, 1) := by decide +kernel
theorem dX2_drawUp_23 : decode cX2_drawUp 23 = .ok (.iaload, 1) := by decide +kernel
theorem dX2_drawUp_24 : decode cX2_drawUp 24 = .ok (.goto 4, 3) := by decide +kernel
theorem dX2_drawUp_27 : decode cX2_drawUp 27 = .ok (.iconst (-1), 1) := by decide +kernel
theorem dX2_drawUp_28 : decode cX2_drawUp 28 = .ok (.istore_n 2, 1) := by decide +kernel
theorem dX2_drawUp_29 : decode cX2_drawUp 29 = .ok (.aload_n 0, 1) := by decide +kernel
theorem dX2_drawUp_30 : decode cX2_drawUp 30 = .ok (.iconst 0, 1) := by decide +kernel
theorem dX2_drawUp_31 : decode cX2_drawUp 31 = .ok (.putfield 71, 3) := by decide +kernel
theorem dX2_drawUp_34 : decode cX2_drawUp 34 = .ok (.aload_n 0, 1) := by decide +kernel
theorem dX2_drawUp_35 : decode cX2_drawUp 35 = .ok (.iload_n 1, 1) := by decide +kernel
theorem dX2_drawUp_36 : decode cX2_drawUp 36 = .ok (.invokevirtual 67, 3) := by decide +kernel
theorem dX2_drawUp_39 : decode cX2_drawUp 39 = .ok (.aload_n 0, 1) := by decide +kernel
theorem dX2_drawUp_40 : decode cX2_drawUp 40 = .ok (.iconst 0, 1) := by decide +kernel
theorem dX2_drawUp_41 : decode cX2_drawUp 41 = .ok (.aload_n 0, 1) := by decide +kernel
theorem dX2_drawUp_42 : decode cX2_drawUp 42 = .ok (.getfield 71, 3) := by decide +kernel
theorem dX2_drawUp_45 : decode cX2_drawUp 45 = .ok (.iconst 1, 1) := by decide +kernel
theorem dX2_drawUp_46 : decode cX2_drawUp 46 = .ok (.isub, 1) := by decide +kernel
theorem dX2_drawUp_47 : decode cX2_drawUp 47 = .ok (.invokevirtual 74, 3) := by decide +kernel
theorem dX2_drawUp_50 : decode cX2_drawUp 50 = .ok (.istore_n 3, 1) := by decide +kernel
theorem dX2_drawUp_51 : decode cX2_drawUp 51 = .ok (.aload_n 0, 1) := by decide +kernel
theorem dX2_drawUp_52 : decode cX2_drawUp 52 = .ok (.iload_n 2, 1) := by decide +kernel
theorem dX2_drawUp_53 : decode cX2_drawUp 53 = .ok (.iload_n 1, 1) := by decide +kernel
theorem dX2_drawUp_54 : decode cX2_drawUp 54 = .ok (.iload_n 3, 1) := by decide +kernel
theorem dX2_drawUp_55 : decode cX2_drawUp 55 = .ok (.invokevirtual 80, 3) := by decide +kernel
theorem dX2_drawUp_58 : decode cX2_drawUp 58 = .ok (.aload_n 0, 1) := by decide +kernel
theorem dX2_drawUp_59 : decode cX2_drawUp 59 = .ok (.dup, 1) := by decide +kernel
theorem dX2_drawUp_60 : decode cX2_drawUp 60 = .ok (.getfield 84, 3) := by decide +kernel
theorem dX2_drawUp_63 : decode cX2_drawUp 63 = .ok (.iconst 1, 1) := by decide +kernel
theorem dX2_drawUp_64 : decode cX2_drawUp 64 = .ok (.iadd, 1) := by decide +kernel
theorem dX2_drawUp_65 : decode cX2_drawUp 65 = .ok (.putfield 84, 3) := by decide +kernel
theorem dX2_drawUp_68 : decode cX2_drawUp 68 = .ok (.aload_n 0, 1) := by decide +kernel
theorem dX2_drawUp_69 : decode cX2_drawUp 69 = .ok (.dup, 1) := by decide +kernel
theorem dX2_drawUp_70 : decode cX2_drawUp 70 = .ok (.getfield 87, 3) := by decide +kernel
theorem dX2_drawUp_73 : decode cX2_drawUp 73 = .ok (.aload_n 0, 1) := by decide +kernel
theorem dX2_drawUp_74 : decode cX2_drawUp 74 = .ok (.getfield 71, 3) := by decide +kernel
theorem dX2_drawUp_77 : decode cX2_drawUp 77 = .ok (.iadd, 1) := by decide +kernel
theorem dX2_drawUp_78 : decode cX2_drawUp 78 = .ok (.putfield 87, 3) := by decide +kernel
theorem dX2_drawUp_81 : decode cX2_drawUp 81 = .ok (.iload_n 2, 1) := by decide +kernel
theorem dX2_drawUp_82 : decode cX2_drawUp 82 = .ok (.iconst (-1), 1) := by decide +kernel
theorem dX2_drawUp_83 : decode cX2_drawUp 83 = .ok (.if_icmp .ne 11, 3) := by decide +kernel
theorem dX2_drawUp_86 : decode cX2_drawUp 86 = .ok (.aload_n 0, 1) := by decide +kernel
theorem dX2_drawUp_87 : decode cX2_drawUp 87 = .ok (.aload_n 0, 1) := by decide +kernel
theorem dX2_drawUp_88 : decode cX2_drawUp 88 = .ok (.getfield 90, 3) := by decide +kernel
theorem dX2_drawUp_91 : decode cX2_drawUp 91 = .ok (.putfield 93, 3) := by decide +kernel
theorem dX2_drawUp_94 : decode cX2_drawUp 94 = .ok (.iload_n 3, 1) := by decide +kernel
theorem dX2_drawUp_95 : decode cX2_drawUp 95 = .ok (.ireturn, 1) := by decide +kernel
set_option maxRecDepth 20000 in
theorem ggX2_crookedWith_X2_size : GoodIn wsX2_crookedWith wsX2_size := goodIn_r _ [9, 4, 3, 5, 6, 7, 8, 17, 18, 19, 20, 21, 22, 23, 24, 25, 26, 27, 28, 29] (by decide +kernel) (by decide +kernel)
set_option maxRecDepth 20000 in
theorem gX2_crookedWith_X2_size : GoodIn wsX2_crookedWith (wsV RX2 36 RX2 yX2_size wsX2_size) := goodIn_app (goodIn_of _ (by decide +kernel)) ggX2_crookedWith_X2_size
set_option maxRecDepth 20000 in
theorem ggX2_crookedWith_X2_isCrooked : GoodIn wsX2_crookedWith wsX2_isCrooked := goodIn_r _ [12, 13, 14, 15, 16] (by decide +kernel) (by decide +kernel)
set_option maxRecDepth 20000 in
theorem gX2_crookedWith_X2_isCrooked : GoodIn wsX2_crookedWith (va_wsS RX2 49 yX2_isCrooked wsX2_isCrooked) := goodIn_app (goodIn_of _ (by decide +kernel)) ggX2_crookedWith_X2_isCrooked
theorem dX2_crookedWith_0 : decode cX2_crookedWith 0 = .ok (.iconst 1, 1) := by decide +kernel
theorem dX2_crookedWith_1 : decode cX2_crookedWith 1 = .ok (.istore_n 2, 1) := by decide +kernel
theorem dX2_crookedWith_2 : decode cX2_crookedWith 2 = .ok (.aload_n 0, 1) := by decide +kernel
theorem dX2_crookedWith_3 : decode cX2_crookedWith 3 = .ok (.getfield 33, 3) := by decide +kernel
theorem dX2_crookedWith_6 : decode cX2_crookedWith 6 = .ok (.iconst 1, 1) := by decide +kernel
theorem dX2_crookedWith_7 : decode cX2_crookedWith 7 = .ok (.isub, 1) := by decide +kernel
theorem dX2_crookedWith_8 : decode cX2_crookedWith 8 = .ok (.istore_n 3, 1) := by decide +kernel
theorem dX2_crookedWith_9 : decode cX2_crookedWith 9 = .ok (.iload_n 3, 1) := by decide +kernel
theorem dX2_crookedWith_10 : decode cX2_crookedWith 10 = .ok (.ifCond .lt 73, 3) := by decide +kernel
theorem dX2_crookedWith_13 : decode cX2_crookedWith 13 = .ok (.aload_n 0, 1) := by decide +kernel
theorem dX2_crookedWith_14 : decode cX2_crookedWith 14 = .ok (.iload_n 1, 1) := by decide +kernel
theorem dX2_crookedWith_15 : decode cX2_crookedWith 15 = .ok (.aload_n 0, 1) := by decide +kernel
theorem dX2_crookedWith_16 : decode cX2_crookedWith 16 = .ok (.getfield 24, 3) := by decide +kernel
theorem dX2_crookedWith_19 : decode cX2_crookedWith 19 = .ok (.iload_n 3, 1) := by decide +kernel
theorem dX2_crookedWith_20 : decode cX2_crookedWith 20 = .ok (.iaload, 1) := by decide +kernel
theorem dX2_crookedWith_21 : decode cX2_crookedWith 21 = .ok (.if_icmp .ge 17, 3) := by decide +kernel
theorem dX2_crookedWith_24 : decode cX2_crookedWith 24 = .ok (.aload_n 0, 1) := by decide +kernel
theorem dX2_crookedWith_25 : decode cX2_crookedWith 25 = .ok (.getfield 21, 3) := by decide +kernel
theorem dX2_crookedWith_28 : decode cX2_crookedWith 28 = .ok (.aload_n 0, 1) := by decide +kernel
theorem dX2_crookedWith_29 : decode cX2_crookedWith 29 = .ok (.getfield 24, 3) := by decide +kernel
theorem dX2_crookedWith_32 : decode cX2_crookedWith 32 = .ok (.iload_n 3, 1) := by decide +kernel
theorem dX2_crookedWith_33 : decode cX2_crookedWith 33 = .ok (.iaload, 1) := by decide +kernel
theorem dX2_crookedWith_34 : decode cX2_crookedWith 34 = .ok (.iaload, 1) := by decide +kernel
theorem dX2_crookedWith_35 : decode cX2_crookedWith 35 = .ok (.goto 14, 3) := by decide +kernel
theorem dX2_crookedWith_38 : decode cX2_crookedWith 38 = .ok (.aload_n 0, 1) := by decide +kernel
theorem dX2_crookedWith_39 : decode cX2_crookedWith 39 = .ok (.getfield 17, 3) := by decide +kernel
theorem dX2_crookedWith_42 : decode cX2_crookedWith 42 = .ok (.aload_n 0, 1) := by decide +kernel
theorem dX2_crookedWith_43 : decode cX2_crookedWith 43 = .ok (.getfield 24, 3) := by decide +kernel
theorem dX2_crookedWith_46 : decode cX2_crookedWith 46 = .ok (.iload_n 3, 1) := by decide +kernel
theorem dX2_crookedWith_47 : decode cX2_crookedWith 47 = .ok (.iaload, 1) := by decide +kernel
theorem dX2_crookedWith_48 : decode cX2_crookedWith 48 = .ok (.iaload, 1) := by decide +kernel
theorem dX2_crookedWith_49 : decode cX2_crookedWith 49 = .ok (.invokevirtual 36, 3) := by decide +kernel
theorem dX2_crookedWith_52 : decode cX2_crookedWith 52 = .ok (.istore 4, 2) := by decide +kernel
theorem dX2_crookedWith_54 : decode cX2_crookedWith 54 = .ok (.iload_n 2, 1) := by decide +kernel
theorem dX2_crookedWith_55 : decode cX2_crookedWith 55 = .ok (.iload 4, 2) := by decide +kernel
theorem dX2_crookedWith_57 : decode cX2_crookedWith 57 = .ok (.invokestatic 49, 3) := by decide +kernel
theorem dX2_crookedWith_60 : decode cX2_crookedWith 60 = .ok (.ifCond .eq 10, 3) := by decide +kernel
theorem dX2_crookedWith_63 : decode cX2_crookedWith 63 = .ok (.aload_n 0, 1) := by decide +kernel
theorem dX2_crookedWith_64 : decode cX2_crookedWith 64 = .ok (.getfield 24, 3) := by decide +kernel
theorem dX2_crookedWith_67 : decode cX2_crookedWith 67 = .ok (.iload_n 3, 1) := by decide +kernel
theorem dX2_crookedWith_68 : decode cX2_crookedWith 68 = .ok (.iaload, 1) := by decide +kernel
theorem dX2_crookedWith_69 : decode cX2_crookedWith 69 = .ok (.ireturn, 1) := by decide +kernel
theorem dX2_crookedWith_70 : decode cX2_crookedWith 70 = .ok (.iload_n 2, 1) := by decide +kernel
theorem dX2_crookedWith_71 : decode cX2_crookedWith 71 = .ok (.iconst 1, 1) := by decide +kernel
theorem dX2_crookedWith_72 : decode cX2_crookedWith 72 = .ok (.iload 4, 2) := by decide +kernel
theorem dX2_crookedWith_74 : decode cX2_crookedWith 74 = .ok (.iadd, 1) := by decide +kernel
theorem dX2_crookedWith_75 : decode cX2_crookedWith 75 = .ok (.iadd, 1) := by decide +kernel
theorem dX2_crookedWith_76 : decode cX2_crookedWith 76 = .ok (.istore_n 2, 1) := by decide +kernel
theorem dX2_crookedWith_77 : decode cX2_crookedWith 77 = .ok (.iinc 3 (-1), 3) := by decide +kernel
theorem dX2_crookedWith_80 : decode cX2_crookedWith 80 = .ok (.goto (-71), 3) := by decide +kernel
theorem dX2_crookedWith_83 : decode cX2_crookedWith 83 = .ok (.iconst (-1), 1) := by decide +kernel
theorem dX2_crookedWith_84 : decode cX2_crookedWith 84 = .ok (.ireturn, 1) := by decide +kernel
set_option maxRecDepth 20000 in
theorem ggX2_muster_X2_isHeight : GoodIn wsX2_muster wsX2_isHeight := goodIn_r _ [16] (by decide +kernel) (by decide +kernel)
set_option maxRecDepth 20000 in
theorem gX2_muster_X2_isHeight : GoodIn wsX2_muster (va_wsS RX2 96 yX2_isHeight wsX2_isHeight) := goodIn_app (goodIn_of _ (by decide +kernel)) ggX2_muster_X2_isHeight
set_option maxRecDepth 20000 in
theorem ggX2_muster_X2_no : GoodIn wsX2_muster wsX2_no := goodIn_r _ [20, 1, 62, 63, 64, 65, 66, 67, 68, 69, 70, 71, 72, 73, 74] (by decide +kernel) (by decide +kernel)
set_option maxRecDepth 20000 in
theorem gX2_muster_X2_no : GoodIn wsX2_muster (wsV RX2 99 RX2 yX2_no wsX2_no) := goodIn_app (goodIn_of _ (by decide +kernel)) ggX2_muster_X2_no
set_option maxRecDepth 20000 in
theorem ggX2_muster_X2_goTo : GoodIn wsX2_muster wsX2_goTo := goodIn_r _ [24, 4, 25, 5, 6, 7, 62, 63, 64, 65, 66, 67, 68, 69, 70, 71, 72, 73, 74] (by decide +kernel) (by decide +kernel)
set_option maxRecDepth 20000 in
theorem gX2_muster_X2_goTo : GoodIn wsX2_muster (wsV RX2 77 RX2 yX2_goTo wsX2_goTo) := goodIn_app (goodIn_of _ (by decide +kernel)) ggX2_muster_X2_goTo
set_option maxRecDepth 20000 in
theorem ggX2_muster_X2_allowed : GoodIn wsX2_muster wsX2_allowed := goodIn_r _ [28, 29, 30] (by decide +kernel) (by decide +kernel)
set_option maxRecDepth 20000 in
theorem gX2_muster_X2_allowed : GoodIn wsX2_muster (va_wsS RX2 102 yX2_allowed wsX2_allowed) := goodIn_app (goodIn_of _ (by decide +kernel)) ggX2_muster_X2_allowed
set_option maxRecDepth 20000 in
theorem ggX2_muster_X2_crookedWith : GoodIn wsX2_muster wsX2_crookedWith := goodIn_r _ [34, 4, 5, 7, 6, 35, 36, 37, 15, 38, 39, 40, 41, 9, 10, 11, 12, 62, 63, 64, 65, 66, 67, 68, 69, 70, 71, 72, 73, 74] (by decide +kernel) (by decide +kernel)
set_option maxRecDepth 20000 in
theorem gX2_muster_X2_crookedWith : GoodIn wsX2_muster (wsV RX2 105 RX2 yX2_crookedWith wsX2_crookedWith) := goodIn_app (goodIn_of _ (by decide +kernel)) ggX2_muster_X2_crookedWith
set_option maxRecDepth 20000 in
theorem ggX2_muster_X2_hang : GoodIn wsX2_muster wsX2_hang := goodIn_r _ [45, 25, 6, 7, 62, 63, 64, 65, 66, 67, 68, 69, 70, 71, 72, 73, 74] (by decide +kernel) (by decide +kernel)
set_option maxRecDepth 20000 in
theorem gX2_muster_X2_hang : GoodIn wsX2_muster (wsV RX2 80 RX2 yX2_hang wsX2_hang) := goodIn_app (goodIn_of _ (by decide +kernel)) ggX2_muster_X2_hang
set_option maxRecDepth 20000 in
theorem ggX2_muster_X2_drawUp : GoodIn wsX2_muster wsX2_drawUp := goodIn_r _ [49, 4, 5, 50, 51, 52, 3, 8, 21, 22, 23, 15, 24, 25, 6, 7, 53, 54, 55, 56, 57, 58, 59, 60, 61, 42, 43, 44, 45, 62, 63, 64, 65, 66, 67, 68, 69, 70, 71, 72, 73, 74] (by decide +kernel) (by decide +kernel)
set_option maxRecDepth 20000 in
theorem gX2_muster_X2_drawUp : GoodIn wsX2_muster (wsV RX2 108 RX2 yX2_drawUp wsX2_drawUp) := goodIn_app (goodIn_of _ (by decide +kernel)) ggX2_muster_X2_drawUp
theorem dX2_muster_0 : decode cX2_muster 0 = .ok (.aload_n 0, 1) := by decide +kernel
theorem dX2_muster_1 : decode cX2_muster 1 = .ok (.iconst 0, 1) := by decide +kernel
theorem dX2_muster_2 : decode cX2_muster 2 = .ok (.putfield 30, 3) := by decide +kernel
theorem dX2_muster_5 : decode cX2_muster 5 = .ok (.iload_n 1, 1) := by decide +kernel
theorem dX2_muster_6 : decode cX2_muster 6 = .ok (.invokestatic 96, 3) := by decide +kernel
theorem dX2_muster_9 : decode cX2_muster 9 = .ok (.ifCond .ne 9, 3) := by decide +kernel
theorem dX2_muster_12 : decode cX2_muster 12 = .ok (.aload_n 0, 1) := by decide +kernel
theorem dX2_muster_13 : decode cX2_muster 13 = .ok (.iconst 1, 1) := by decide +kernel
theorem dX2_muster_14 : decode cX2_muster 14 = .ok (.invokevirtual 99, 3) := by decide +kernel
theorem dX2_muster_17 : decode cX2_muster 17 = .ok (.ireturn, 1) := by decide +kernel
theorem dX2_muster_18 : decode cX2_muster 18 = .ok (.aload_n 0, 1) := by decide +kernel
theorem dX2_muster_19 : decode cX2_muster 19 = .ok (.getfield 13, 3) := by decide +kernel
theorem dX2_muster_22 : decode cX2_muster 22 = .ok (.iload_n 1, 1) := by decide +kernel
theorem dX2_muster_23 : decode cX2_muster 23 = .ok (.baload, 1) := by decide +kernel
theorem dX2_muster_24 : decode cX2_muster 24 = .ok (.ifCond .ne 13, 3) := by decide +kernel
theorem dX2_muster_27 : decode cX2_muster 27 = .ok (.aload_n 0, 1) := by decide +kernel
theorem dX2_muster_28 : decode cX2_muster 28 = .ok (.getfield 90, 3) := by decide +kernel
theorem dX2_muster_31 : decode cX2_muster 31 = .ok (.sipush 150, 3) := by decide +kernel
theorem dX2_muster_34 : decode cX2_muster 34 = .ok (.if_icmp .ne 9, 3) := by decide +kernel
theorem dX2_muster_37 : decode cX2_muster 37 = .ok (.aload_n 0, 1) := by decide +kernel
theorem dX2_muster_38 : decode cX2_muster 38 = .ok (.iconst 2, 1) := by decide +kernel
theorem dX2_muster_39 : decode cX2_muster 39 = .ok (.invokevirtual 99, 3) := by decide +kernel
theorem dX2_muster_42 : decode cX2_muster 42 = .ok (.ireturn, 1) := by decide +kernel
theorem dX2_muster_43 : decode cX2_muster 43 = .ok (.aload_n 0, 1) := by decide +kernel
theorem dX2_muster_44 : decode cX2_muster 44 = .ok (.iload_n 1, 1) := by decide +kernel
theorem dX2_muster_45 : decode cX2_muster 45 = .ok (.invokevirtual 77, 3) := by decide +kernel
theorem dX2_muster_48 : decode cX2_muster 48 = .ok (.aload_n 0, 1) := by decide +kernel
theorem dX2_muster_49 : decode cX2_muster 49 = .ok (.getfield 33, 3) := by decide +kernel
theorem dX2_muster_52 : decode cX2_muster 52 = .ok (.aload_n 0, 1) := by decide +kernel
theorem dX2_muster_53 : decode cX2_muster 53 = .ok (.getfield 90, 3) := by decide +kernel
theorem dX2_muster_56 : decode cX2_muster 56 = .ok (.iconst 1, 1) := by decide +kernel
theorem dX2_muster_57 : decode cX2_muster 57 = .ok (.iadd, 1) := by decide +kernel
theorem dX2_muster_58 : decode cX2_muster 58 = .ok (.invokestatic 102, 3) := by decide +kernel
theorem dX2_muster_61 : decode cX2_muster 61 = .ok (.if_icmp .le 11, 3) := by decide +kernel
theorem dX2_muster_64 : decode cX2_muster 64 = .ok (.aload_n 0, 1) := by decide +kernel
theorem dX2_muster_65 : decode cX2_muster 65 = .ok (.iload_n 1, 1) := by decide +kernel
theorem dX2_muster_66 : decode cX2_muster 66 = .ok (.invokevirtual 105, 3) := by decide +kernel
