set_option maxRecDepth 20000 in
theorem gX5_till_X5_found : GoodIn wsX5_till (wsV RX5 64 RX5 yX5_found wsX5_found) := goodIn_app (goodIn_of _ (by decide +kernel)) ggX5_till_X5_found
set_option maxRecDepth 20000 in
theorem ggX5_till_X5_firstYear : GoodIn wsX5_till wsX5_firstYear := goodIn_r _ [26, 27, 1, 28, 29, 30, 31, 32, 33, 34, 35, 36, 37, 38, 39, 40, 6, 41, 42, 43, 44, 45, 46, 47, 48, 49, 50, 51, 52, 53, 54, 55, 56, 57, 58, 59, 60, 61, 62, 63, 64, 65, 66, 67, 68, 69, 70, 71, 72, 73, 74, 75, 76, 77, 78, 79, 80, 81, 82, 94, 95, 96, 97, 98, 99, 100, 83, 84, 85, 86, 87, 88, 89, 90, 91, 92, 93] (by decide +kernel) (by decide +kernel)
set_option maxRecDepth 20000 in
theorem gX5_till_X5_firstYear : GoodIn wsX5_till (wsV RX5 198 RX5 yX5_firstYear wsX5_firstYear) := goodIn_app (goodIn_of _ (by decide +kernel)) ggX5_till_X5_firstYear
theorem dX5_till_0 : decode cX5_till 0 = .ok (.aload_n 0, 1) := by decide +kernel
theorem dX5_till_1 : decode cX5_till 1 = .ok (.getfield 12, 3) := by decide +kernel
theorem dX5_till_4 : decode cX5_till 4 = .ok (.iload_n 1, 1) := by decide +kernel
theorem dX5_till_5 : decode cX5_till 5 = .ok (.invokevirtual 120, 3) := by decide +kernel
theorem dX5_till_8 : decode cX5_till 8 = .ok (.ifCond .eq 14, 3) := by decide +kernel
theorem dX5_till_11 : decode cX5_till 11 = .ok (.aload_n 0, 1) := by decide +kernel
theorem dX5_till_12 : decode cX5_till 12 = .ok (.getfield 12, 3) := by decide +kernel
theorem dX5_till_15 : decode cX5_till 15 = .ok (.iload_n 2, 1) := by decide +kernel
theorem dX5_till_16 : decode cX5_till 16 = .ok (.invokevirtual 180, 3) := by decide +kernel
theorem dX5_till_19 : decode cX5_till 19 = .ok (.ifCond .ne 10, 3) := by decide +kernel
theorem dX5_till_22 : decode cX5_till 22 = .ok (.aload_n 0, 1) := by decide +kernel
theorem dX5_till_23 : decode cX5_till 23 = .ok (.ldc 63, 2) := by decide +kernel
theorem dX5_till_25 : decode cX5_till 25 = .ok (.invokevirtual 64, 3) := by decide +kernel
theorem dX5_till_28 : decode cX5_till 28 = .ok (.ireturn, 1) := by decide +kernel
theorem dX5_till_29 : decode cX5_till 29 = .ok (.aload_n 0, 1) := by decide +kernel
theorem dX5_till_30 : decode cX5_till 30 = .ok (.iload_n 1, 1) := by decide +kernel
theorem dX5_till_31 : decode cX5_till 31 = .ok (.iload_n 2, 1) := by decide +kernel
theorem dX5_till_32 : decode cX5_till 32 = .ok (.iconst 0, 1) := by decide +kernel
theorem dX5_till_33 : decode cX5_till 33 = .ok (.invokevirtual 198, 3) := by decide +kernel
theorem dX5_till_36 : decode cX5_till 36 = .ok (.ireturn, 1) := by decide +kernel
set_option maxRecDepth 20000 in
theorem ggX5_firstYear_X1_spanWords : GoodIn wsX5_firstYear wsX1_spanWords := goodIn_r _ [7, 8, 9, 10, 11, 12, 13, 14, 15, 16, 17, 18, 19, 20, 21, 22, 23, 24, 25, 26, 27, 28, 29, 30, 31, 32, 6, 33, 59, 60, 61, 62, 63, 64, 65, 66, 67, 68, 69, 70, 71, 72, 73, 74, 75, 76] (by decide +kernel) (by decide +kernel)
set_option maxRecDepth 20000 in
theorem gX5_firstYear_X1_spanWords : GoodIn wsX5_firstYear (wsV RX5 144 RX1 yX1_spanWords wsX1_spanWords) := goodIn_app (goodIn_of _ (by decide +kernel)) ggX5_firstYear_X1_spanWords
set_option maxRecDepth 20000 in
theorem ggX5_firstYear_X3_ageIn : GoodIn wsX5_firstYear wsX3_ageIn := goodIn_r _ [37, 38, 39, 40, 41, 42, 66, 67, 68, 69, 70, 71, 72, 73, 74, 75, 76] (by decide +kernel) (by decide +kernel)
set_option maxRecDepth 20000 in
theorem gX5_firstYear_X3_ageIn : GoodIn wsX5_firstYear (wsV RX5 192 RX3 yX3_ageIn wsX3_ageIn) := goodIn_app (goodIn_of _ (by decide +kernel)) ggX5_firstYear_X3_ageIn
set_option maxRecDepth 20000 in
theorem ggX5_firstYear_X1_canBeIn : GoodIn wsX5_firstYear wsX1_canBeIn := goodIn_r _ [46, 10, 47, 48, 49, 6, 50, 11, 12, 59, 60, 61, 62, 63, 64, 65] (by decide +kernel) (by decide +kernel)
set_option maxRecDepth 20000 in
theorem gX5_firstYear_X1_canBeIn : GoodIn wsX5_firstYear (wsV RX5 167 RX1 yX1_canBeIn wsX1_canBeIn) := goodIn_app (goodIn_of _ (by decide +kernel)) ggX5_firstYear_X1_canBeIn
theorem dX5_firstYear_0 : decode cX5_firstYear 0 = .ok (.aload_n 0, 1) := by decide +kernel
theorem dX5_firstYear_1 : decode cX5_firstYear 1 = .ok (.getfield 28, 3) := by decide +kernel
theorem dX5_firstYear_4 : decode cX5_firstYear 4 = .ok (.iload_n 1, 1) := by decide +kernel
theorem dX5_firstYear_5 : decode cX5_firstYear 5 = .ok (.invokevirtual 144, 3) := by decide +kernel
theorem dX5_firstYear_8 : decode cX5_firstYear 8 = .ok (.iconst 0, 1) := by decide +kernel
theorem dX5_firstYear_9 : decode cX5_firstYear 9 = .ok (.istore 4, 2) := by decide +kernel
theorem dX5_firstYear_11 : decode cX5_firstYear 11 = .ok (.iload 4, 2) := by decide +kernel
theorem dX5_firstYear_13 : decode cX5_firstYear 13 = .ok (.bipush 99, 2) := by decide +kernel
theorem dX5_firstYear_15 : decode cX5_firstYear 15 = .ok (.if_icmp .gt 33, 3) := by decide +kernel
theorem dX5_firstYear_18 : decode cX5_firstYear 18 = .ok (.aload_n 0, 1) := by decide +kernel
theorem dX5_firstYear_19 : decode cX5_firstYear 19 = .ok (.getfield 28, 3) := by decide +kernel
theorem dX5_firstYear_22 : decode cX5_firstYear 22 = .ok (.aload_n 0, 1) := by decide +kernel
theorem dX5_firstYear_23 : decode cX5_firstYear 23 = .ok (.getfield 12, 3) := by decide +kernel
theorem dX5_firstYear_26 : decode cX5_firstYear 26 = .ok (.iload_n 2, 1) := by decide +kernel
theorem dX5_firstYear_27 : decode cX5_firstYear 27 = .ok (.iload 4, 2) := by decide +kernel
theorem dX5_firstYear_29 : decode cX5_firstYear 29 = .ok (.invokevirtual 192, 3) := by decide +kernel
theorem dX5_firstYear_32 : decode cX5_firstYear 32 = .ok (.invokevirtual 167, 3) := by decide +kernel
theorem dX5_firstYear_35 : decode cX5_firstYear 35 = .ok (.iload_n 3, 1) := by decide +kernel
theorem dX5_firstYear_36 : decode cX5_firstYear 36 = .ok (.if_icmp .ne 6, 3) := by decide +kernel
theorem dX5_firstYear_39 : decode cX5_firstYear 39 = .ok (.iload 4, 2) := by decide +kernel
theorem dX5_firstYear_41 : decode cX5_firstYear 41 = .ok (.ireturn, 1) := by decide +kernel
theorem dX5_firstYear_42 : decode cX5_firstYear 42 = .ok (.iinc 4 1, 3) := by decide +kernel
theorem dX5_firstYear_45 : decode cX5_firstYear 45 = .ok (.goto (-34), 3) := by decide +kernel
theorem dX5_firstYear_48 : decode cX5_firstYear 48 = .ok (.bipush 100, 2) := by decide +kernel
theorem dX5_firstYear_50 : decode cX5_firstYear 50 = .ok (.ireturn, 1) := by decide +kernel
set_option maxRecDepth 20000 in
theorem ggX5_heard_X3_hasTale : GoodIn wsX5_heard wsX3_hasTale := goodIn_r _ [11, 12, 82, 83, 84, 85, 86, 87, 88, 89, 90, 91, 92] (by decide +kernel) (by decide +kernel)
set_option maxRecDepth 20000 in
theorem gX5_heard_X3_hasTale : GoodIn wsX5_heard (wsV RX5 120 RX3 yX3_hasTale wsX3_hasTale) := goodIn_app (goodIn_of _ (by decide +kernel)) ggX5_heard_X3_hasTale
set_option maxRecDepth 20000 in
theorem ggX5_heard_X5_isIn : GoodIn wsX5_heard wsX5_isIn := goodIn_r _ [16] (by decide +kernel) (by decide +kernel)
set_option maxRecDepth 20000 in
theorem gX5_heard_X5_isIn : GoodIn wsX5_heard (va_wsS RX5 59 yX5_isIn wsX5_isIn) := goodIn_app (goodIn_of _ (by decide +kernel)) ggX5_heard_X5_isIn
set_option maxRecDepth 20000 in
theorem ggX5_heard_X3_hasHearer : GoodIn wsX5_heard wsX3_hasHearer := goodIn_r _ [20, 21, 82, 83, 84, 85, 86, 87, 88, 89, 90, 91, 92] (by decide +kernel) (by decide +kernel)
set_option maxRecDepth 20000 in
theorem gX5_heard_X3_hasHearer : GoodIn wsX5_heard (wsV RX5 180 RX3 yX3_hasHearer wsX3_hasHearer) := goodIn_app (goodIn_of _ (by decide +kernel)) ggX5_heard_X3_hasHearer
set_option maxRecDepth 20000 in
theorem ggX5_heard_X5_found : GoodIn wsX5_heard wsX5_found := goodIn_r _ [25, 2, 26, 13, 14, 15, 16, 74, 75, 76, 77, 78, 79, 80, 81] (by decide +kernel) (by decide +kernel)
set_option maxRecDepth 20000 in
theorem gX5_heard_X5_found : GoodIn wsX5_heard (wsV RX5 64 RX5 yX5_found wsX5_found) := goodIn_app (goodIn_of _ (by decide +kernel)) ggX5_heard_X5_found
set_option maxRecDepth 20000 in
theorem ggX5_heard_X1_findBest : GoodIn wsX5_heard wsX1_findBest := goodIn_r _ [31, 32, 33, 34, 35, 36, 37, 38, 39, 30, 40, 41, 42, 43, 10, 44, 45, 46, 47, 48, 49, 50, 51, 52, 53, 54, 55, 56, 57, 58, 59, 60, 61, 62, 63, 64, 65, 66, 67, 68, 69, 93, 94, 95, 96, 97, 98, 99, 82, 83, 84, 85, 86, 87, 88, 89, 90, 91, 92] (by decide +kernel) (by decide +kernel)
set_option maxRecDepth 20000 in
theorem gX5_heard_X1_findBest : GoodIn wsX5_heard (wsV RX5 157 RX1 yX1_findBest wsX1_findBest) := goodIn_app (goodIn_of _ (by decide +kernel)) ggX5_heard_X1_findBest
set_option maxRecDepth 20000 in
theorem ggX5_heard_X1_understoodOfBest : GoodIn wsX5_heard wsX1_understoodOfBest := goodIn_r _ [73, 33, 34, 36, 93, 94, 95, 96, 97, 98, 99, 82, 83, 84, 85, 86, 87, 88, 89, 90, 91, 92] (by decide +kernel) (by decide +kernel)
set_option maxRecDepth 20000 in
theorem gX5_heard_X1_understoodOfBest : GoodIn wsX5_heard (wsV RX5 202 RX1 yX1_understoodOfBest wsX1_understoodOfBest) := goodIn_app (goodIn_of _ (by decide +kernel)) ggX5_heard_X1_understoodOfBest
theorem dX5_heard_0 : decode cX5_heard 0 = .ok (.aload_n 0, 1) := by decide +kernel
theorem dX5_heard_1 : decode cX5_heard 1 = .ok (.getfield 12, 3) := by decide +kernel
theorem dX5_heard_4 : decode cX5_heard 4 = .ok (.iload_n 1, 1) := by decide +kernel
theorem dX5_heard_5 : decode cX5_heard 5 = .ok (.invokevirtual 120, 3) := by decide +kernel
theorem dX5_heard_8 : decode cX5_heard 8 = .ok (.ifCond .eq 24, 3) := by decide +kernel
theorem dX5_heard_11 : decode cX5_heard 11 = .ok (.iload_n 2, 1) := by decide +kernel
theorem dX5_heard_12 : decode cX5_heard 12 = .ok (.iconst 0, 1) := by decide +kernel
theorem dX5_heard_13 : decode cX5_heard 13 = .ok (.bipush 120, 2) := by decide +kernel
theorem dX5_heard_15 : decode cX5_heard 15 = .ok (.invokestatic 59, 3) := by decide +kernel
theorem dX5_heard_18 : decode cX5_heard 18 = .ok (.ifCond .eq 14, 3) := by decide +kernel
theorem dX5_heard_21 : decode cX5_heard 21 = .ok (.aload_n 0, 1) := by decide +kernel
theorem dX5_heard_22 : decode cX5_heard 22 = .ok (.getfield 12, 3) := by decide +kernel
theorem dX5_heard_25 : decode cX5_heard 25 = .ok (.iload_n 3, 1) := by decide +kernel
theorem dX5_heard_26 : decode cX5_heard 26 = .ok (.invokevirtual 180, 3) := by decide +kernel
theorem dX5_heard_29 : decode cX5_heard 29 = .ok (.ifCond .ne 10, 3) := by decide +kernel
theorem dX5_heard_32 : decode cX5_heard 32 = .ok (.aload_n 0, 1) := by decide +kernel
theorem dX5_heard_33 : decode cX5_heard 33 = .ok (.ldc 63, 2) := by decide +kernel
theorem dX5_heard_35 : decode cX5_heard 35 = .ok (.invokevirtual 64, 3) := by decide +kernel
theorem dX5_heard_38 : decode cX5_heard 38 = .ok (.ireturn, 1) := by decide +kernel
theorem dX5_heard_39 : decode cX5_heard 39 = .ok (.aload_n 0, 1) := by decide +kernel
theorem dX5_heard_40 : decode cX5_heard 40 = .ok (.getfield 28, 3) := by decide +kernel
theorem dX5_heard_43 : decode cX5_heard 43 = .ok (.iload_n 1, 1) := by decide +kernel
theorem dX5_heard_44 : decode cX5_heard 44 = .ok (.iload_n 2, 1) := by decide +kernel
theorem dX5_heard_45 : decode cX5_heard 45 = .ok (.invokevirtual 157, 3) := by decide +kernel
theorem dX5_heard_48 : decode cX5_heard 48 = .ok (.ldc 160, 2) := by decide +kernel
theorem dX5_heard_50 : decode cX5_heard 50 = .ok (.if_icmp .ne 10, 3) := by decide +kernel
theorem dX5_heard_53 : decode cX5_heard 53 = .ok (.aload_n 0, 1) := by decide +kernel
theorem dX5_heard_54 : decode cX5_heard 54 = .ok (.ldc 129, 2) := by decide +kernel
theorem dX5_heard_56 : decode cX5_heard 56 = .ok (.invokevirtual 64, 3) := by decide +kernel
theorem dX5_heard_59 : decode cX5_heard 59 = .ok (.ireturn, 1) := by decide +kernel
theorem dX5_heard_60 : decode cX5_heard 60 = .ok (.aload_n 0, 1) := by decide +kernel
theorem dX5_heard_61 : decode cX5_heard 61 = .ok (.getfield 28, 3) := by decide +kernel
theorem dX5_heard_64 : decode cX5_heard 64 = .ok (.iload_n 1, 1) := by decide +kernel
theorem dX5_heard_65 : decode cX5_heard 65 = .ok (.aload_n 0, 1) := by decide +kernel
theorem dX5_heard_66 : decode cX5_heard 66 = .ok (.getfield 12, 3) := by decide +kernel
theorem dX5_heard_69 : decode cX5_heard 69 = .ok (.getfield 183, 3) := by decide +kernel
theorem dX5_heard_72 : decode cX5_heard 72 = .ok (.iload_n 3, 1) := by decide +kernel
theorem dX5_heard_73 : decode cX5_heard 73 = .ok (.iaload, 1) := by decide +kernel
theorem dX5_heard_74 : decode cX5_heard 74 = .ok (.invokevirtual 202, 3) := by decide +kernel
theorem dX5_heard_77 : decode cX5_heard 77 = .ok (.ireturn, 1) := by decide +kernel
set_option maxRecDepth 20000 in
theorem ggX5_together_X5_isIn : GoodIn wsX5_together wsX5_isIn := goodIn_r _ [10] (by decide +kernel) (by decide +kernel)
set_option maxRecDepth 20000 in
theorem gX5_together_X5_isIn : GoodIn wsX5_together (va_wsS RX5 59 yX5_isIn wsX5_isIn) := goodIn_app (goodIn_of _ (by decide +kernel)) ggX5_together_X5_isIn
set_option maxRecDepth 20000 in
theorem ggX5_together_X3_hasTale : GoodIn wsX5_together wsX3_hasTale := goodIn_r _ [15, 16, 69, 70, 71, 72, 73, 74, 75, 76, 77, 78, 79] (by decide +kernel) (by decide +kernel)
set_option maxRecDepth 20000 in
theorem gX5_together_X3_hasTale : GoodIn wsX5_together (wsV RX5 120 RX3 yX3_hasTale wsX3_hasTale) := goodIn_app (goodIn_of _ (by decide +kernel)) ggX5_together_X3_hasTale
set_option maxRecDepth 20000 in
theorem ggX5_together_X5_found : GoodIn wsX5_together wsX5_found := goodIn_r _ [20, 3, 21, 7, 8, 9, 10, 61, 62, 63, 64, 65, 66, 67, 68] (by decide +kernel) (by decide +kernel)
set_option maxRecDepth 20000 in
theorem gX5_together_X5_found : GoodIn wsX5_together (wsV RX5 64 RX5 yX5_found wsX5_found) := goodIn_app (goodIn_of _ (by decide +kernel)) ggX5_together_X5_found
set_option maxRecDepth 20000 in
theorem ggX5_together_X1_mostUnderstood : GoodIn wsX5_together wsX1_mostUnderstood := goodIn_r _ [26, 27, 28, 29, 30, 31, 32, 33, 14, 34, 35, 36, 37, 38, 39, 40, 41, 42, 43, 44, 45, 46, 47, 48, 49, 25, 50, 51, 52, 53, 54, 55, 56, 57, 58, 59, 60, 80, 81, 82, 83, 84, 85, 86, 69, 70, 71, 72, 73, 74, 75, 76, 77, 78, 79] (by decide +kernel) (by decide +kernel)
set_option maxRecDepth 20000 in
theorem gX5_together_X1_mostUnderstood : GoodIn wsX5_together (wsV RX5 205 RX1 yX1_mostUnderstood wsX1_mostUnderstood) := goodIn_app (goodIn_of _ (by decide +kernel)) ggX5_together_X1_mostUnderstood
theorem dX5_together_0 : decode cX5_together 0 = .ok (.iload_n 3, 1) := by decide +kernel
theorem dX5_together_1 : decode cX5_together 1 = .ok (.iconst 0, 1) := by decide +kernel
theorem dX5_together_2 : decode cX5_together 2 = .ok (.iconst 1, 1) := by decide +kernel
theorem dX5_together_3 : decode cX5_together 3 = .ok (.aload_n 0, 1) := by decide +kernel
theorem dX5_together_4 : decode cX5_together 4 = .ok (.getfield 12, 3) := by decide +kernel
theorem dX5_together_7 : decode cX5_together 7 = .ok (.getfield 174, 3) := by decide +kernel
theorem dX5_together_10 : decode cX5_together 10 = .ok (.ishl, 1) := by decide +kernel
theorem dX5_together_11 : decode cX5_together 11 = .ok (.iconst 1, 1) := by decide +kernel
theorem dX5_together_12 : decode cX5_together 12 = .ok (.isub, 1) := by decide +kernel
theorem dX5_together_13 : decode cX5_together 13 = .ok (.invokestatic 59, 3) := by decide +kernel
theorem dX5_together_16 : decode cX5_together 16 = .ok (.istore 4, 2) := by decide +kernel
theorem dX5_together_18 : decode cX5_together 18 = .ok (.aload_n 0, 1) := by decide +kernel
theorem dX5_together_19 : decode cX5_together 19 = .ok (.getfield 12, 3) := by decide +kernel
theorem dX5_together_22 : decode cX5_together 22 = .ok (.iload_n 1, 1) := by decide +kernel
theorem dX5_together_23 : decode cX5_together 23 = .ok (.invokevirtual 120, 3) := by decide +kernel
theorem dX5_together_26 : decode cX5_together 26 = .ok (.ifCond .eq 18, 3) := by decide +kernel
theorem dX5_together_29 : decode cX5_together 29 = .ok (.iload_n 2, 1) := by decide +kernel
theorem dX5_together_30 : decode cX5_together 30 = .ok (.iconst 0, 1) := by decide +kernel
theorem dX5_together_31 : decode cX5_together 31 = .ok (.bipush 120, 2) := by decide +kernel
theorem dX5_together_33 : decode cX5_together 33 = .ok (.invokestatic 59, 3) := by decide +kernel
theorem dX5_together_36 : decode cX5_together 36 = .ok (.ifCond .eq 8, 3) := by decide +kernel
theorem dX5_together_39 : decode cX5_together 39 = .ok (.iload 4, 2) := by decide +kernel
theorem dX5_together_41 : decode cX5_together 41 = .ok (.ifCond .ne 10, 3) := by decide +kernel
theorem dX5_together_44 : decode cX5_together 44 = .ok (.aload_n 0, 1) := by decide +kernel
theorem dX5_together_45 : decode cX5_together 45 = .ok (.ldc 63, 2) := by decide +kernel
theorem dX5_together_47 : decode cX5_together 47 = .ok (.invokevirtual 64, 3) := by decide +kernel
theorem dX5_together_50 : decode cX5_together 50 = .ok (.ireturn, 1) := by decide +kernel
theorem dX5_together_51 : decode cX5_together 51 = .ok (.aload_n 0, 1) := by decide +kernel
theorem dX5_together_52 : decode cX5_together 52 = .ok (.getfield 28, 3) := by decide +kernel
theorem dX5_together_55 : decode cX5_together 55 = .ok (.iload_n 1, 1) := by decide +kernel
theorem dX5_together_56 : decode cX5_together 56 = .ok (.iload_n 2, 1) := by decide +kernel
theorem dX5_together_57 : decode cX5_together 57 = .ok (.iload_n 3, 1) := by decide +kernel
theorem dX5_together_58 : decode cX5_together 58 = .ok (.invokevirtual 205, 3) := by decide +kernel
theorem dX5_together_61 : decode cX5_together 61 = .ok (.istore 5, 2) := by decide +kernel
theorem dX5_together_63 : decode cX5_together 63 = .ok (.iload 5, 2) := by decide +kernel
theorem dX5_together_65 : decode cX5_together 65 = .ok (.ldc 160, 2) := by decide +kernel
theorem dX5_together_67 : decode cX5_together 67 = .ok (.if_icmp .ne 12, 3) := by decide +kernel
theorem dX5_together_70 : decode cX5_together 70 = .ok (.aload_n 0, 1) := by decide +kernel
theorem dX5_together_71 : decode cX5_together 71 = .ok (.ldc 129, 2) := by decide +kernel
theorem dX5_together_73 : decode cX5_together 73 = .ok (.invokevirtual 64, 3) := by decide +kernel
theorem dX5_together_76 : decode cX5_together 76 = .ok (.goto 5, 3) := by decide +kernel
theorem dX5_together_79 : decode cX5_together 79 = .ok (.iload 5, 2) := by decide +kernel
theorem dX5_together_81 : decode cX5_together 81 = .ok (.ireturn, 1) := by decide +kernel
set_option maxRecDepth 20000 in
theorem ggX5_pass_X3_hasTale : GoodIn wsX5_pass wsX3_hasTale := goodIn_r _ [10, 11, 72, 73, 74, 75, 76, 77, 78, 79, 80, 81, 82] (by decide +kernel) (by decide +kernel)
set_option maxRecDepth 20000 in
theorem gX5_pass_X3_hasTale : GoodIn wsX5_pass (wsV RX5 120 RX3 yX3_hasTale wsX3_hasTale) := goodIn_app (goodIn_of _ (by decide +kernel)) ggX5_pass_X3_hasTale
set_option maxRecDepth 20000 in
theorem ggX5_pass_X3_hasHearer : GoodIn wsX5_pass wsX3_hasHearer := goodIn_r _ [15, 16, 72, 73, 74, 75, 76, 77, 78, 79, 80, 81, 82] (by decide +kernel) (by decide +kernel)
set_option maxRecDepth 20000 in
theorem gX5_pass_X3_hasHearer : GoodIn wsX5_pass (wsV RX5 180 RX3 yX3_hasHearer wsX3_hasHearer) := goodIn_app (goodIn_of _ (by decide +kernel)) ggX5_pass_X3_hasHearer
set_option maxRecDepth 20000 in
theorem ggX5_pass_X5_found : GoodIn wsX5_pass wsX5_found := goodIn_r _ [21, 2, 22, 23, 24, 20, 25, 64, 65, 66, 67, 68, 69, 70, 71] (by decide +kernel) (by decide +kernel)
set_option maxRecDepth 20000 in
theorem gX5_pass_X5_found : GoodIn wsX5_pass (wsV RX5 64 RX5 yX5_found wsX5_found) := goodIn_app (goodIn_of _ (by decide +kernel)) ggX5_pass_X5_found
set_option maxRecDepth 20000 in
theorem ggX5_pass_X1_spanWords : GoodIn wsX5_pass wsX1_spanWords := goodIn_r _ [30, 31, 32, 33, 34, 35, 36, 37, 38, 9, 39, 40, 41, 42, 43, 44, 45, 46, 47, 48, 49, 50, 51, 52, 53, 54, 29, 55, 83, 84, 85, 86, 87, 88, 89, 72, 73, 74, 75, 76, 77, 78, 79, 80, 81, 82] (by decide +kernel) (by decide +kernel)
set_option maxRecDepth 20000 in
theorem gX5_pass_X1_spanWords : GoodIn wsX5_pass (wsV RX5 144 RX1 yX1_spanWords wsX1_spanWords) := goodIn_app (goodIn_of _ (by decide +kernel)) ggX5_pass_X1_spanWords
set_option maxRecDepth 20000 in
theorem ggX5_pass_X1_comesOf : GoodIn wsX5_pass wsX1_comesOf := goodIn_r _ [59, 60, 61, 62, 29, 63, 34, 35, 83, 84, 85, 86, 87, 88, 89] (by decide +kernel) (by decide +kernel)
set_option maxRecDepth 20000 in
theorem gX5_pass_X1_comesOf : GoodIn wsX5_pass (wsV RX5 209 RX1 yX1_comesOf wsX1_comesOf) := goodIn_app (goodIn_of _ (by decide +kernel)) ggX5_pass_X1_comesOf
theorem dX5_pass_0 : decode cX5_pass 0 = .ok (.aload_n 0, 1) := by decide +kernel
theorem dX5_pass_1 : decode cX5_pass 1 = .ok (.getfield 12, 3) := by decide +kernel
theorem dX5_pass_4 : decode cX5_pass 4 = .ok (.iload_n 1, 1) := by decide +kernel
theorem dX5_pass_5 : decode cX5_pass 5 = .ok (.invokevirtual 120, 3) := by decide +kernel
theorem dX5_pass_8 : decode cX5_pass 8 = .ok (.ifCond .eq 14, 3) := by decide +kernel
theorem dX5_pass_11 : decode cX5_pass 11 = .ok (.aload_n 0, 1) := by decide +kernel
theorem dX5_pass_12 : decode cX5_pass 12 = .ok (.getfield 12, 3) := by decide +kernel
theorem dX5_pass_15 : decode cX5_pass 15 = .ok (.iload_n 2, 1) := by decide +kernel
theorem dX5_pass_16 : decode cX5_pass 16 = .ok (.invokevirtual 180, 3) := by decide +kernel
theorem dX5_pass_19 : decode cX5_pass 19 = .ok (.ifCond .ne 10, 3) := by decide +kernel
theorem dX5_pass_22 : decode cX5_pass 22 = .ok (.aload_n 0, 1) := by decide +kernel
theorem dX5_pass_23 : decode cX5_pass 23 = .ok (.ldc 63, 2) := by decide +kernel
theorem dX5_pass_25 : decode cX5_pass 25 = .ok (.invokevirtual 64, 3) := by decide +kernel
theorem dX5_pass_28 : decode cX5_pass 28 = .ok (.ireturn, 1) := by decide +kernel
theorem dX5_pass_29 : decode cX5_pass 29 = .ok (.aload_n 0, 1) := by decide +kernel
theorem dX5_pass_30 : decode cX5_pass 30 = .ok (.getfield 28, 3) := by decide +kernel
theorem dX5_pass_33 : decode cX5_pass 33 = .ok (.iload_n 1, 1) := by decide +kernel
theorem dX5_pass_34 : decode cX5_pass 34 = .ok (.invokevirtual 144, 3) := by decide +kernel
theorem dX5_pass_37 : decode cX5_pass 37 = .ok (.aload_n 0, 1) := by decide +kernel
theorem dX5_pass_38 : decode cX5_pass 38 = .ok (.getfield 28, 3) := by decide +kernel
theorem dX5_pass_41 : decode cX5_pass 41 = .ok (.aload_n 0, 1) := by decide +kernel
theorem dX5_pass_42 : decode cX5_pass 42 = .ok (.getfield 12, 3) := by decide +kernel
theorem dX5_pass_45 : decode cX5_pass 45 = .ok (.getfield 123, 3) := by decide +kernel
theorem dX5_pass_48 : decode cX5_pass 48 = .ok (.iload_n 1, 1) := by decide +kernel
theorem dX5_pass_49 : decode cX5_pass 49 = .ok (.iaload, 1) := by decide +kernel
theorem dX5_pass_50 : decode cX5_pass 50 = .ok (.aload_n 0, 1) := by decide +kernel
theorem dX5_pass_51 : decode cX5_pass 51 = .ok (.getfield 12, 3) := by decide +kernel
theorem dX5_pass_54 : decode cX5_pass 54 = .ok (.getfield 183, 3) := by decide +kernel
theorem dX5_pass_57 : decode cX5_pass 57 = .ok (.iload_n 2, 1) := by decide +kernel
theorem dX5_pass_58 : decode cX5_pass 58 = .ok (.iaload, 1) := by decide +kernel
theorem dX5_pass_59 : decode cX5_pass 59 = .ok (.invokevirtual 209, 3) := by decide +kernel
theorem dX5_pass_62 : decode cX5_pass 62 = .ok (.ireturn, 1) := by decide +kernel
set_option maxRecDepth 20000 in
theorem ggX5_through_X3_hasTale : GoodIn wsX5_through wsX3_hasTale := goodIn_r _ [10, 11, 72, 73, 74, 75, 76, 77, 78, 79, 80, 81, 82] (by decide +kernel) (by decide +kernel)
set_option maxRecDepth 20000 in
theorem gX5_through_X3_hasTale : GoodIn wsX5_through (wsV RX5 120 RX3 yX3_hasTale wsX3_hasTale) := goodIn_app (goodIn_of _ (by decide +kernel)) ggX5_through_X3_hasTale
set_option maxRecDepth 20000 in
theorem ggX5_through_X3_hasHearer : GoodIn wsX5_through wsX3_hasHearer := goodIn_r _ [15, 16, 72, 73, 74, 75, 76, 77, 78, 79, 80, 81, 82] (by decide +kernel) (by decide +kernel)
set_option maxRecDepth 20000 in
theorem gX5_through_X3_hasHearer : GoodIn wsX5_through (wsV RX5 180 RX3 yX3_hasHearer wsX3_hasHearer) := goodIn_app (goodIn_of _ (by decide +kernel)) ggX5_through_X3_hasHearer
set_option maxRecDepth 20000 in
theorem ggX5_through_X5_found : GoodIn wsX5_through wsX5_found := goodIn_r _ [21, 2, 22, 23, 24, 20, 25, 64, 65, 66, 67, 68, 69, 70, 71] (by decide +kernel) (by decide +kernel)
set_option maxRecDepth 20000 in
theorem gX5_through_X5_found : GoodIn wsX5_through (wsV RX5 64 RX5 yX5_found wsX5_found) := goodIn_app (goodIn_of _ (by decide +kernel)) ggX5_through_X5_found
set_option maxRecDepth 20000 in
theorem ggX5_through_X1_spanWords : GoodIn wsX5_through wsX1_spanWords := goodIn_r _ [30, 31, 32, 33, 34, 35, 36, 37, 38, 9, 39, 40, 41, 42, 43, 44, 45, 46, 47, 48, 49, 50, 51, 52, 53, 54, 29, 55, 83, 84, 85, 86, 87, 88, 89, 72, 73, 74, 75, 76, 77, 78, 79, 80, 81, 82] (by decide +kernel) (by decide +kernel)
set_option maxRecDepth 20000 in
theorem gX5_through_X1_spanWords : GoodIn wsX5_through (wsV RX5 144 RX1 yX1_spanWords wsX1_spanWords) := goodIn_app (goodIn_of _ (by decide +kernel)) ggX5_through_X1_spanWords
set_option maxRecDepth 20000 in
theorem ggX5_through_X1_comesOf : GoodIn wsX5_through wsX1_comesOf := goodIn_r _ [59, 60, 61, 62, 29, 63, 34, 35, 83, 84, 85, 86, 87, 88, 89] (by decide +kernel) (by decide +kernel)
set_option maxRecDepth 20000 in
theorem gX5_through_X1_comesOf : GoodIn wsX5_through (wsV RX5 209 RX1 yX1_comesOf wsX1_comesOf) := goodIn_app (goodIn_of _ (by decide +kernel)) ggX5_through_X1_comesOf
theorem dX5_through_0 : decode cX5_through 0 = .ok (.aload_n 0, 1) := by decide +kernel
theorem dX5_through_1 : decode cX5_through 1 = .ok (.getfield 12, 3) := by decide +kernel
theorem dX5_through_4 : decode cX5_through 4 = .ok (.iload_n 1, 1) := by decide +kernel
theorem dX5_through_5 : decode cX5_through 5 = .ok (.invokevirtual 120, 3) := by decide +kernel
theorem dX5_through_8 : decode cX5_through 8 = .ok (.ifCond .eq 25, 3) := by decide +kernel
theorem dX5_through_11 : decode cX5_through 11 = .ok (.aload_n 0, 1) := by decide +kernel
theorem dX5_through_12 : decode cX5_through 12 = .ok (.getfield 12, 3) := by decide +kernel
theorem dX5_through_15 : decode cX5_through 15 = .ok (.iload_n 2, 1) := by decide +kernel
theorem dX5_through_16 : decode cX5_through 16 = .ok (.invokevirtual 180, 3) := by decide +kernel
theorem dX5_through_19 : decode cX5_through 19 = .ok (.ifCond .eq 14, 3) := by decide +kernel
theorem dX5_through_22 : decode cX5_through 22 = .ok (.aload_n 0, 1) := by decide +kernel
theorem dX5_through_23 : decode cX5_through 23 = .ok (.getfield 12, 3) := by decide +kernel
theorem dX5_through_26 : decode cX5_through 26 = .ok (.iload_n 3, 1) := by decide +kernel
theorem dX5_through_27 : decode cX5_through 27 = .ok (.invokevirtual 180, 3) := by decide +kernel
theorem dX5_through_30 : decode cX5_through 30 = .ok (.ifCond .ne 10, 3) := by decide +kernel
theorem dX5_through_33 : decode cX5_through 33 = .ok (.aload_n 0, 1) := by decide +kernel
theorem dX5_through_34 : decode cX5_through 34 = .ok (.ldc 63, 2) := by decide +kernel
theorem dX5_through_36 : decode cX5_through 36 = .ok (.invokevirtual 64, 3) := by decide +kernel
theorem dX5_through_39 : decode cX5_through 39 = .ok (.ireturn, 1) := by decide +kernel
theorem dX5_through_40 : decode cX5_through 40 = .ok (.aload_n 0, 1) := by decide +kernel
theorem dX5_through_41 : decode cX5_through 41 = .ok (.getfield 28, 3) := by decide +kernel
theorem dX5_through_44 : decode cX5_through 44 = .ok (.iload_n 1, 1) := by decide +kernel
theorem dX5_through_45 : decode cX5_through 45 = .ok (.invokevirtual 144, 3) := by decide +kernel
theorem dX5_through_48 : decode cX5_through 48 = .ok (.aload_n 0, 1) := by decide +kernel
theorem dX5_through_49 : decode cX5_through 49 = .ok (.getfield 28, 3) := by decide +kernel
theorem dX5_through_52 : decode cX5_through 52 = .ok (.aload_n 0, 1) := by decide +kernel
theorem dX5_through_53 : decode cX5_through 53 = .ok (.getfield 12, 3) := by decide +kernel
theorem dX5_through_56 : decode cX5_through 56 = .ok (.getfield 123, 3) := by decide +kernel
theorem dX5_through_59 : decode cX5_through 59 = .ok (.iload_n 1, 1) := by decide +kernel
theorem dX5_through_60 : decode cX5_through 60 = .ok (.iaload, 1) := by decide +kernel
theorem dX5_through_61 : decode cX5_through 61 = .ok (.aload_n 0, 1) := by decide +kernel
theorem dX5_through_62 : decode cX5_through 62 = .ok (.getfield 12, 3) := by decide +kernel
theorem dX5_through_65 : decode cX5_through 65 = .ok (.getfield 183, 3) := by decide +kernel
theorem dX5_through_68 : decode cX5_through 68 = .ok (.iload_n 2, 1) := by decide +kernel
theorem dX5_through_69 : decode cX5_through 69 = .ok (.iaload, 1) := by decide +kernel
theorem dX5_through_70 : decode cX5_through 70 = .ok (.invokevirtual 209, 3) := by decide +kernel
theorem dX5_through_73 : decode cX5_through 73 = .ok (.istore 4, 2) := by decide +kernel
theorem dX5_through_75 : decode cX5_through 75 = .ok (.aload_n 0, 1) := by decide +kernel
theorem dX5_through_76 : decode cX5_through 76 = .ok (.getfield 28, 3) := by decide +kernel
theorem dX5_through_79 : decode cX5_through 79 = .ok (.iload 4, 2) := by decide +kernel
theorem dX5_through_81 : decode cX5_through 81 = .ok (.aload_n 0, 1) := by decide +kernel
theorem dX5_through_82 : decode cX5_through 82 = .ok (.getfield 12, 3) := by decide +kernel
theorem dX5_through_85 : decode cX5_through 85 = .ok (.getfield 183, 3) := by decide +kernel
theorem dX5_through_88 : decode cX5_through 88 = .ok (.iload_n 3, 1) := by decide +kernel
theorem dX5_through_89 : decode cX5_through 89 = .ok (.iaload, 1) := by decide +kernel
theorem dX5_through_90 : decode cX5_through 90 = .ok (.invokevirtual 209, 3) := by decide +kernel
theorem dX5_through_93 : decode cX5_through 93 = .ok (.ireturn, 1) := by decide +kernel
set_option maxRecDepth 20000 in
theorem ggX5_middle_X3_hasTale : GoodIn wsX5_middle wsX3_hasTale := goodIn_r _ [12, 13, 74, 75, 76, 77, 78, 79, 80, 81, 82, 83, 84] (by decide +kernel) (by decide +kernel)
set_option maxRecDepth 20000 in
theorem gX5_middle_X3_hasTale : GoodIn wsX5_middle (wsV RX5 120 RX3 yX3_hasTale wsX3_hasTale) := goodIn_app (goodIn_of _ (by decide +kernel)) ggX5_middle_X3_hasTale
set_option maxRecDepth 20000 in
theorem ggX5_middle_X3_hasHearer : GoodIn wsX5_middle wsX3_hasHearer := goodIn_r _ [17, 18, 74, 75, 76, 77, 78, 79, 80, 81, 82, 83, 84] (by decide +kernel) (by decide +kernel)
set_option maxRecDepth 20000 in
theorem gX5_middle_X3_hasHearer : GoodIn wsX5_middle (wsV RX5 180 RX3 yX3_hasHearer wsX3_hasHearer) := goodIn_app (goodIn_of _ (by decide +kernel)) ggX5_middle_X3_hasHearer
set_option maxRecDepth 20000 in
theorem ggX5_middle_X5_found : GoodIn wsX5_middle wsX5_found := goodIn_r _ [23, 2, 24, 25, 26, 22, 27, 66, 67, 68, 69, 70, 71, 72, 73] (by decide +kernel) (by decide +kernel)
set_option maxRecDepth 20000 in
theorem gX5_middle_X5_found : GoodIn wsX5_middle (wsV RX5 64 RX5 yX5_found wsX5_found) := goodIn_app (goodIn_of _ (by decide +kernel)) ggX5_middle_X5_found
set_option maxRecDepth 20000 in
theorem ggX5_middle_X1_spanWords : GoodIn wsX5_middle wsX1_spanWords := goodIn_r _ [32, 33, 34, 35, 36, 37, 38, 39, 40, 11, 41, 42, 43, 44, 45, 46, 47, 48, 49, 50, 51, 52, 53, 54, 55, 56, 31, 57, 85, 86, 87, 88, 89, 90, 91, 74, 75, 76, 77, 78, 79, 80, 81, 82, 83, 84] (by decide +kernel) (by decide +kernel)
set_option maxRecDepth 20000 in
theorem gX5_middle_X1_spanWords : GoodIn wsX5_middle (wsV RX5 144 RX1 yX1_spanWords wsX1_spanWords) := goodIn_app (goodIn_of _ (by decide +kernel)) ggX5_middle_X1_spanWords
set_option maxRecDepth 20000 in
theorem ggX5_middle_X1_comesOf : GoodIn wsX5_middle wsX1_comesOf := goodIn_r _ [61, 62, 63, 64, 31, 65, 36, 37, 85, 86, 87, 88, 89, 90, 91] (by decide +kernel) (by decide +kernel)
set_option maxRecDepth 20000 in
theorem gX5_middle_X1_comesOf : GoodIn wsX5_middle (wsV RX5 209 RX1 yX1_comesOf wsX1_comesOf) := goodIn_app (goodIn_of _ (by decide +kernel)) ggX5_middle_X1_comesOf
theorem dX5_middle_0 : decode cX5_middle 0 = .ok (.aload_n 0, 1) := by decide +kernel
theorem dX5_middle_1 : decode cX5_middle 1 = .ok (.getfield 12, 3) := by decide +kernel
theorem dX5_middle_4 : decode cX5_middle 4 = .ok (.iload_n 1, 1) := by decide +kernel
theorem dX5_middle_5 : decode cX5_middle 5 = .ok (.invokevirtual 120, 3) := by decide +kernel
theorem dX5_middle_8 : decode cX5_middle 8 = .ok (.ifCond .eq 30, 3) := by decide +kernel
theorem dX5_middle_11 : decode cX5_middle 11 = .ok (.aload_n 0, 1) := by decide +kernel
theorem dX5_middle_12 : decode cX5_middle 12 = .ok (.getfield 12, 3) := by decide +kernel
theorem dX5_middle_15 : decode cX5_middle 15 = .ok (.iload_n 2, 1) := by decide +kernel
theorem dX5_middle_16 : decode cX5_middle 16 = .ok (.invokevirtual 180, 3) := by decide +kernel
theorem dX5_middle_19 : decode cX5_middle 19 = .ok (.ifCond .eq 19, 3) := by decide +kernel
theorem dX5_middle_22 : decode cX5_middle 22 = .ok (.aload_n 0, 1) := by decide +kernel
theorem dX5_middle_23 : decode cX5_middle 23 = .ok (.getfield 12, 3) := by decide +kernel
theorem dX5_middle_26 : decode cX5_middle 26 = .ok (.iload_n 3, 1) := by decide +kernel
theorem dX5_middle_27 : decode cX5_middle 27 = .ok (.invokevirtual 180, 3) := by decide +kernel
theorem dX5_middle_30 : decode cX5_middle 30 = .ok (.ifCond .eq 8, 3) := by decide +kernel
theorem dX5_middle_33 : decode cX5_middle 33 = .ok (.iload_n 2, 1) := by decide +kernel
theorem dX5_middle_34 : decode cX5_middle 34 = .ok (.iload_n 3, 1) := by decide +kernel
theorem dX5_middle_35 : decode cX5_middle 35 = .ok (.if_icmp .ne 10, 3) := by decide +kernel
theorem dX5_middle_38 : decode cX5_middle 38 = .ok (.aload_n 0, 1) := by decide +kernel
theorem dX5_middle_39 : decode cX5_middle 39 = .ok (.ldc 63, 2) := by decide +kernel
theorem dX5_middle_41 : decode cX5_middle 41 = .ok (.invokevirtual 64, 3) := by decide +kernel
theorem dX5_middle_44 : decode cX5_middle 44 = .ok (.ireturn, 1) := by decide +kernel
theorem dX5_middle_45 : decode cX5_middle 45 = .ok (.aload_n 0, 1) := by decide +kernel
theorem dX5_middle_46 : decode cX5_middle 46 = .ok (.getfield 28, 3) := by decide +kernel
theorem dX5_middle_49 : decode cX5_middle 49 = .ok (.iload_n 1, 1) := by decide +kernel
theorem dX5_middle_50 : decode cX5_middle 50 = .ok (.invokevirtual 144, 3) := by decide +kernel
theorem dX5_middle_53 : decode cX5_middle 53 = .ok (.aload_n 0, 1) := by decide +kernel
theorem dX5_middle_54 : decode cX5_middle 54 = .ok (.getfield 28, 3) := by decide +kernel
theorem dX5_middle_57 : decode cX5_middle 57 = .ok (.aload_n 0, 1) := by decide +kernel
theorem dX5_middle_58 : decode cX5_middle 58 = .ok (.getfield 12, 3) := by decide +kernel
theorem dX5_middle_61 : decode cX5_middle 61 = .ok (.getfield 123, 3) := by decide +kernel
theorem dX5_middle_64 : decode cX5_middle 64 = .ok (.iload_n 1, 1) := by decide +kernel
theorem dX5_middle_65 : decode cX5_middle 65 = .ok (.iaload, 1) := by decide +kernel
theorem dX5_middle_66 : decode cX5_middle 66 = .ok (.aload_n 0, 1) := by decide +kernel
theorem dX5_middle_67 : decode cX5_middle 67 = .ok (.getfield 12, 3) := by decide +kernel
theorem dX5_middle_70 : decode cX5_middle 70 = .ok (.getfield 183, 3) := by decide +kernel
theorem dX5_middle_73 : decode cX5_middle 73 = .ok (.iload_n 2, 1) := by decide +kernel
theorem dX5_middle_74 : decode cX5_middle 74 = .ok (.iaload, 1) := by decide +kernel
theorem dX5_middle_75 : decode cX5_middle 75 = .ok (.invokevirtual 209, 3) := by decide +kernel
theorem dX5_middle_78 : decode cX5_middle 78 = .ok (.istore 4, 2) := by decide +kernel
theorem dX5_middle_80 : decode cX5_middle 80 = .ok (.iconst (-1), 1) := by decide +kernel
theorem dX5_middle_81 : decode cX5_middle 81 = .ok (.istore 5, 2) := by decide +kernel
theorem dX5_middle_83 : decode cX5_middle 83 = .ok (.iconst (-1), 1) := by decide +kernel
theorem dX5_middle_84 : decode cX5_middle 84 = .ok (.istore 6, 2) := by decide +kernel
theorem dX5_middle_86 : decode cX5_middle 86 = .ok (.iconst 0, 1) := by decide +kernel
theorem dX5_middle_87 : decode cX5_middle 87 = .ok (.istore 7, 2) := by decide +kernel
theorem dX5_middle_89 : decode cX5_middle 89 = .ok (.iload 7, 2) := by decide +kernel
theorem dX5_middle_91 : decode cX5_middle 91 = .ok (.aload_n 0, 1) := by decide +kernel
theorem dX5_middle_92 : decode cX5_middle 92 = .ok (.getfield 12, 3) := by decide +kernel
theorem dX5_middle_95 : decode cX5_middle 95 = .ok (.getfield 174, 3) := by decide +kernel
theorem dX5_middle_98 : decode cX5_middle 98 = .ok (.if_icmp .ge 73, 3) := by decide +kernel
theorem dX5_middle_101 : decode cX5_middle 101 = .ok (.aload_n 0, 1) := by decide +kernel
theorem dX5_middle_102 : decode cX5_middle 102 = .ok (.getfield 28, 3) := by decide +kernel
theorem dX5_middle_105 : decode cX5_middle 105 = .ok (.aload_n 0, 1) := by decide +kernel
theorem dX5_middle_106 : decode cX5_middle 106 = .ok (.getfield 28, 3) := by decide +kernel
theorem dX5_middle_109 : decode cX5_middle 109 = .ok (.iload 4, 2) := by decide +kernel
theorem dX5_middle_111 : decode cX5_middle 111 = .ok (.aload_n 0, 1) := by decide +kernel
theorem dX5_middle_112 : decode cX5_middle 112 = .ok (.getfield 12, 3) := by decide +kernel
theorem dX5_middle_115 : decode cX5_middle 115 = .ok (.getfield 183, 3) := by decide +kernel
theorem dX5_middle_118 : decode cX5_middle 118 = .ok (.iload 7, 2) := by decide +kernel
theorem dX5_middle_120 : decode cX5_middle 120 = .ok (.iaload, 1) := by decide +kernel
theorem dX5_middle_121 : decode cX5_middle 121 = .ok (.invokevirtual 209, 3) := by decide +kernel
theorem dX5_middle_124 : decode cX5_middle 124 = .ok (.aload_n 0, 1) := by decide +kernel
theorem dX5_middle_125 : decode cX5_middle 125 = .ok (.getfield 12, 3) := by decide +kernel
theorem dX5_middle_128 : decode cX5_middle 128 = .ok (.getfield 183, 3) := by decide +kernel
theorem dX5_middle_131 : decode cX5_middle 131 = .ok (.iload_n 3, 1) := by decide +kernel
theorem dX5_middle_132 : decode cX5_middle 132 = .ok (.iaload, 1) := by decide +kernel
theorem dX5_middle_133 : decode cX5_middle 133 = .ok (.invokevirtual 209, 3) := by decide +kernel
theorem dX5_middle_136 : decode cX5_middle 136 = .ok (.istore 8, 2) := by decide +kernel
theorem dX5_middle_138 : decode cX5_middle 138 = .ok (.iload 7, 2) := by decide +kernel
theorem dX5_middle_140 : decode cX5_middle 140 = .ok (.iload_n 2, 1) := by decide +kernel
theorem dX5_middle_141 : decode cX5_middle 141 = .ok (.if_icmp .eq 24, 3) := by decide +kernel
theorem dX5_middle_144 : decode cX5_middle 144 = .ok (.iload 7, 2) := by decide +kernel
theorem dX5_middle_146 : decode cX5_middle 146 = .ok (.iload_n 3, 1) := by decide +kernel
theorem dX5_middle_147 : decode cX5_middle 147 = .ok (.if_icmp .eq 18, 3) := by decide +kernel
theorem dX5_middle_150 : decode cX5_middle 150 = .ok (.iload 8, 2) := by decide +kernel
theorem dX5_middle_152 : decode cX5_middle 152 = .ok (.iload 6, 2) := by decide +kernel
theorem dX5_middle_154 : decode cX5_middle 154 = .ok (.if_icmp .le 11, 3) := by decide +kernel
theorem dX5_middle_157 : decode cX5_middle 157 = .ok (.iload 7, 2) := by decide +kernel
theorem dX5_middle_159 : decode cX5_middle 159 = .ok (.istore 5, 2) := by decide +kernel
theorem dX5_middle_161 : decode cX5_middle 161 = .ok (.iload 8, 2) := by decide +kernel
theorem dX5_middle_163 : decode cX5_middle 163 = .ok (.istore 6, 2) := by decide +kernel
theorem dX5_middle_165 : decode cX5_middle 165 = .ok (.iinc 7 1, 3) := by decide +kernel
theorem dX5_middle_168 : decode cX5_middle 168 = .ok (.goto (-79), 3) := by decide +kernel
theorem dX5_middle_171 : decode cX5_middle 171 = .ok (.iload 5, 2) := by decide +kernel
theorem dX5_middle_173 : decode cX5_middle 173 = .ok (.ifCond .ge 12, 3) := by decide +kernel
theorem dX5_middle_176 : decode cX5_middle 176 = .ok (.aload_n 0, 1) := by decide +kernel
theorem dX5_middle_177 : decode cX5_middle 177 = .ok (.ldc 129, 2) := by decide +kernel
theorem dX5_middle_179 : decode cX5_middle 179 = .ok (.invokevirtual 64, 3) := by decide +kernel
theorem dX5_middle_182 : decode cX5_middle 182 = .ok (.goto 5, 3) := by decide +kernel
theorem dX5_middle_185 : decode cX5_middle 185 = .ok (.iload 5, 2) := by decide +kernel
theorem dX5_middle_187 : decode cX5_middle 187 = .ok (.ireturn, 1) := by decide +kernel
set_option maxRecDepth 20000 in
theorem ggX5_chain_X3_hasTale : GoodIn wsX5_chain wsX3_hasTale := goodIn_r _ [12, 13, 69, 70, 71, 72, 73, 74, 75, 76, 77, 78, 79] (by decide +kernel) (by decide +kernel)
set_option maxRecDepth 20000 in
theorem gX5_chain_X3_hasTale : GoodIn wsX5_chain (wsV RX5 120 RX3 yX3_hasTale wsX3_hasTale) := goodIn_app (goodIn_of _ (by decide +kernel)) ggX5_chain_X3_hasTale
set_option maxRecDepth 20000 in
theorem ggX5_chain_X5_found : GoodIn wsX5_chain wsX5_found := goodIn_r _ [18, 2, 19, 20, 21, 17, 22, 61, 62, 63, 64, 65, 66, 67, 68] (by decide +kernel) (by decide +kernel)
set_option maxRecDepth 20000 in
theorem gX5_chain_X5_found : GoodIn wsX5_chain (wsV RX5 64 RX5 yX5_found wsX5_found) := goodIn_app (goodIn_of _ (by decide +kernel)) ggX5_chain_X5_found
set_option maxRecDepth 20000 in
theorem ggX5_chain_X1_spanWords : GoodIn wsX5_chain wsX1_spanWords := goodIn_r _ [27, 28, 29, 30, 31, 32, 33, 34, 35, 11, 36, 37, 38, 39, 40, 41, 42, 43, 44, 45, 46, 47, 48, 49, 50, 51, 26, 52, 80, 81, 82, 83, 84, 85, 86, 69, 70, 71, 72, 73, 74, 75, 76, 77, 78, 79] (by decide +kernel) (by decide +kernel)
set_option maxRecDepth 20000 in
theorem gX5_chain_X1_spanWords : GoodIn wsX5_chain (wsV RX5 144 RX1 yX1_spanWords wsX1_spanWords) := goodIn_app (goodIn_of _ (by decide +kernel)) ggX5_chain_X1_spanWords
set_option maxRecDepth 20000 in
theorem ggX5_chain_X1_comesOf : GoodIn wsX5_chain wsX1_comesOf := goodIn_r _ [56, 57, 58, 59, 26, 60, 31, 32, 80, 81, 82, 83, 84, 85, 86] (by decide +kernel) (by decide +kernel)
set_option maxRecDepth 20000 in
theorem gX5_chain_X1_comesOf : GoodIn wsX5_chain (wsV RX5 209 RX1 yX1_comesOf wsX1_comesOf) := goodIn_app (goodIn_of _ (by decide +kernel)) ggX5_chain_X1_comesOf
theorem dX5_chain_0 : decode cX5_chain 0 = .ok (.aload_n 0, 1) := by decide +kernel
theorem dX5_chain_1 : decode cX5_chain 1 = .ok (.getfield 12, 3) := by decide +kernel
theorem dX5_chain_4 : decode cX5_chain 4 = .ok (.iload_n 1, 1) := by decide +kernel
theorem dX5_chain_5 : decode cX5_chain 5 = .ok (.invokevirtual 120, 3) := by decide +kernel
theorem dX5_chain_8 : decode cX5_chain 8 = .ok (.ifCond .ne 10, 3) := by decide +kernel
theorem dX5_chain_11 : decode cX5_chain 11 = .ok (.aload_n 0, 1) := by decide +kernel
theorem dX5_chain_12 : decode cX5_chain 12 = .ok (.ldc 63, 2) := by decide +kernel
theorem dX5_chain_14 : decode cX5_chain 14 = .ok (.invokevirtual 64, 3) := by decide +kernel
theorem dX5_chain_17 : decode cX5_chain 17 = .ok (.ireturn, 1) := by decide +kernel
theorem dX5_chain_18 : decode cX5_chain 18 = .ok (.aload_n 0, 1) := by decide +kernel
theorem dX5_chain_19 : decode cX5_chain 19 = .ok (.getfield 12, 3) := by decide +kernel
theorem dX5_chain_22 : decode cX5_chain 22 = .ok (.getfield 174, 3) := by decide +kernel
theorem dX5_chain_25 : decode cX5_chain 25 = .ok (.ifCond .ne 10, 3) := by decide +kernel
theorem dX5_chain_28 : decode cX5_chain 28 = .ok (.aload_n 0, 1) := by decide +kernel
theorem dX5_chain_29 : decode cX5_chain 29 = .ok (.ldc 129, 2) := by decide +kernel
theorem dX5_chain_31 : decode cX5_chain 31 = .ok (.invokevirtual 64, 3) := by decide +kernel
theorem dX5_chain_34 : decode cX5_chain 34 = .ok (.ireturn, 1) := by decide +kernel
theorem dX5_chain_35 : decode cX5_chain 35 = .ok (.aload_n 0, 1) := by decide +kernel
theorem dX5_chain_36 : decode cX5_chain 36 = .ok (.getfield 28, 3) := by decide +kernel
theorem dX5_chain_39 : decode cX5_chain 39 = .ok (.iload_n 1, 1) := by decide +kernel
theorem dX5_chain_40 : decode cX5_chain 40 = .ok (.invokevirtual 144, 3) := by decide +kernel
theorem dX5_chain_43 : decode cX5_chain 43 = .ok (.aload_n 0, 1) := by decide +kernel
theorem dX5_chain_44 : decode cX5_chain 44 = .ok (.getfield 12, 3) := by decide +kernel
theorem dX5_chain_47 : decode cX5_chain 47 = .ok (.getfield 123, 3) := by decide +kernel
theorem dX5_chain_50 : decode cX5_chain 50 = .ok (.iload_n 1, 1) := by decide +kernel
theorem dX5_chain_51 : decode cX5_chain 51 = .ok (.iaload, 1) := by decide +kernel
theorem dX5_chain_52 : decode cX5_chain 52 = .ok (.istore_n 2, 1) := by decide +kernel
theorem dX5_chain_53 : decode cX5_chain 53 = .ok (.iconst 0, 1) := by decide +kernel
theorem dX5_chain_54 : decode cX5_chain 54 = .ok (.istore_n 3, 1) := by decide +kernel
theorem dX5_chain_55 : decode cX5_chain 55 = .ok (.iload_n 3, 1) := by decide +kernel
theorem dX5_chain_56 : decode cX5_chain 56 = .ok (.aload_n 0, 1) := by decide +kernel
theorem dX5_chain_57 : decode cX5_chain 57 = .ok (.getfield 12, 3) := by decide +kernel
theorem dX5_chain_60 : decode cX5_chain 60 = .ok (.getfield 174, 3) := by decide +kernel
theorem dX5_chain_63 : decode cX5_chain 63 = .ok (.if_icmp .ge 27, 3) := by decide +kernel
theorem dX5_chain_66 : decode cX5_chain 66 = .ok (.aload_n 0, 1) := by decide +kernel
theorem dX5_chain_67 : decode cX5_chain 67 = .ok (.getfield 28, 3) := by decide +kernel
theorem dX5_chain_70 : decode cX5_chain 70 = .ok (.iload_n 2, 1) := by decide +kernel
theorem dX5_chain_71 : decode cX5_chain 71 = .ok (.aload_n 0, 1) := by decide +kernel
theorem dX5_chain_72 : decode cX5_chain 72 = .ok (.getfield 12, 3) := by decide +kernel
theorem dX5_chain_75 : decode cX5_chain 75 = .ok (.getfield 183, 3) := by decide +kernel
theorem dX5_chain_78 : decode cX5_chain 78 = .ok (.iload_n 3, 1) := by decide +kernel
theorem dX5_chain_79 : decode cX5_chain 79 = .ok (.iaload, 1) := by decide +kernel
theorem dX5_chain_80 : decode cX5_chain 80 = .ok (.invokevirtual 209, 3) := by decide +kernel
theorem dX5_chain_83 : decode cX5_chain 83 = .ok (.istore_n 2, 1) := by decide +kernel
theorem dX5_chain_84 : decode cX5_chain 84 = .ok (.iinc 3 1, 3) := by decide +kernel
theorem dX5_chain_87 : decode cX5_chain 87 = .ok (.goto (-32), 3) := by decide +kernel
theorem dX5_chain_90 : decode cX5_chain 90 = .ok (.iload_n 2, 1) := by decide +kernel
theorem dX5_chain_91 : decode cX5_chain 91 = .ok (.ireturn, 1) := by decide +kernel
set_option maxRecDepth 20000 in
theorem ggX5_spread_X3_hasTale : GoodIn wsX5_spread wsX3_hasTale := goodIn_r _ [10, 11, 83, 84, 85, 86, 87, 88, 89, 90, 91, 92, 93] (by decide +kernel) (by decide +kernel)
set_option maxRecDepth 20000 in
theorem gX5_spread_X3_hasTale : GoodIn wsX5_spread (wsV RX5 120 RX3 yX3_hasTale wsX3_hasTale) := goodIn_app (goodIn_of _ (by decide +kernel)) ggX5_spread_X3_hasTale
set_option maxRecDepth 20000 in
theorem ggX5_spread_X5_isIn : GoodIn wsX5_spread wsX5_isIn := goodIn_r _ [15] (by decide +kernel) (by decide +kernel)
set_option maxRecDepth 20000 in
theorem gX5_spread_X5_isIn : GoodIn wsX5_spread (va_wsS RX5 59 yX5_isIn wsX5_isIn) := goodIn_app (goodIn_of _ (by decide +kernel)) ggX5_spread_X5_isIn
set_option maxRecDepth 20000 in
theorem ggX5_spread_X5_found : GoodIn wsX5_spread wsX5_found := goodIn_r _ [19, 2, 20, 12, 13, 14, 15, 75, 76, 77, 78, 79, 80, 81, 82] (by decide +kernel) (by decide +kernel)
set_option maxRecDepth 20000 in
theorem gX5_spread_X5_found : GoodIn wsX5_spread (wsV RX5 64 RX5 yX5_found wsX5_found) := goodIn_app (goodIn_of _ (by decide +kernel)) ggX5_spread_X5_found
set_option maxRecDepth 20000 in
theorem ggX5_spread_X1_spanWords : GoodIn wsX5_spread wsX1_spanWords := goodIn_r _ [25, 26, 27, 28, 29, 30, 31, 32, 33, 9, 34, 35, 36, 37, 38, 39, 40, 41, 42, 43, 44, 45, 46, 47, 48, 49, 24, 50, 94, 95, 96, 97, 98, 99, 100, 83, 84, 85, 86, 87, 88, 89, 90, 91, 92, 93] (by decide +kernel) (by decide +kernel)
set_option maxRecDepth 20000 in
theorem gX5_spread_X1_spanWords : GoodIn wsX5_spread (wsV RX5 144 RX1 yX1_spanWords wsX1_spanWords) := goodIn_app (goodIn_of _ (by decide +kernel)) ggX5_spread_X1_spanWords
set_option maxRecDepth 20000 in
theorem ggX5_spread_X1_sayableTo : GoodIn wsX5_spread wsX1_sayableTo := goodIn_r _ [54, 26, 55, 56, 57, 58, 59, 24, 60, 28, 61, 62, 63, 64, 29, 30, 94, 95, 96, 97, 98, 99, 100, 83, 84, 85, 86, 87, 88, 89, 90, 91, 92, 93] (by decide +kernel) (by decide +kernel)
set_option maxRecDepth 20000 in
theorem gX5_spread_X1_sayableTo : GoodIn wsX5_spread (wsV RX5 186 RX1 yX1_sayableTo wsX1_sayableTo) := goodIn_app (goodIn_of _ (by decide +kernel)) ggX5_spread_X1_sayableTo
set_option maxRecDepth 20000 in
theorem ggX5_spread_X3_nearTo : GoodIn wsX5_spread wsX3_nearTo := goodIn_r _ [68, 69, 70, 71, 72, 73, 74, 83, 84, 85, 86, 87, 88, 89, 90, 91, 92, 93] (by decide +kernel) (by decide +kernel)
set_option maxRecDepth 20000 in
theorem gX5_spread_X3_nearTo : GoodIn wsX5_spread (wsV RX5 212 RX3 yX3_nearTo wsX3_nearTo) := goodIn_app (goodIn_of _ (by decide +kernel)) ggX5_spread_X3_nearTo
theorem dX5_spread_0 : decode cX5_spread 0 = .ok (.aload_n 0, 1) := by decide +kernel
theorem dX5_spread_1 : decode cX5_spread 1 = .ok (.getfield 12, 3) := by decide +kernel
theorem dX5_spread_4 : decode cX5_spread 4 = .ok (.iload_n 1, 1) := by decide +kernel
theorem dX5_spread_5 : decode cX5_spread 5 = .ok (.invokevirtual 120, 3) := by decide +kernel
theorem dX5_spread_8 : decode cX5_spread 8 = .ok (.ifCond .eq 13, 3) := by decide +kernel
theorem dX5_spread_11 : decode cX5_spread 11 = .ok (.iload_n 2, 1) := by decide +kernel
theorem dX5_spread_12 : decode cX5_spread 12 = .ok (.iconst 0, 1) := by decide +kernel
theorem dX5_spread_13 : decode cX5_spread 13 = .ok (.bipush 99, 2) := by decide +kernel
theorem dX5_spread_15 : decode cX5_spread 15 = .ok (.invokestatic 59, 3) := by decide +kernel
theorem dX5_spread_18 : decode cX5_spread 18 = .ok (.ifCond .ne 10, 3) := by decide +kernel
theorem dX5_spread_21 : decode cX5_spread 21 = .ok (.aload_n 0, 1) := by decide +kernel
theorem dX5_spread_22 : decode cX5_spread 22 = .ok (.ldc 63, 2) := by decide +kernel
theorem dX5_spread_24 : decode cX5_spread 24 = .ok (.invokevirtual 64, 3) := by decide +kernel
theorem dX5_spread_27 : decode cX5_spread 27 = .ok (.ireturn, 1) := by decide +kernel
theorem dX5_spread_28 : decode cX5_spread 28 = .ok (.aload_n 0, 1) := by decide +kernel
theorem dX5_spread_29 : decode cX5_spread 29 = .ok (.getfield 12, 3) := by decide +kernel
theorem dX5_spread_32 : decode cX5_spread 32 = .ok (.getfield 174, 3) := by decide +kernel
theorem dX5_spread_35 : decode cX5_spread 35 = .ok (.ifCond .ne 10, 3) := by decide +kernel
theorem dX5_spread_38 : decode cX5_spread 38 = .ok (.aload_n 0, 1) := by decide +kernel
theorem dX5_spread_39 : decode cX5_spread 39 = .ok (.ldc 129, 2) := by decide +kernel
theorem dX5_spread_41 : decode cX5_spread 41 = .ok (.invokevirtual 64, 3) := by decide +kernel
theorem dX5_spread_44 : decode cX5_spread 44 = .ok (.ireturn, 1) := by decide +kernel
theorem dX5_spread_45 : decode cX5_spread 45 = .ok (.aload_n 0, 1) := by decide +kernel
theorem dX5_spread_46 : decode cX5_spread 46 = .ok (.getfield 28, 3) := by decide +kernel
theorem dX5_spread_49 : decode cX5_spread 49 = .ok (.iload_n 1, 1) := by decide +kernel
theorem dX5_spread_50 : decode cX5_spread 50 = .ok (.invokevirtual 144, 3) := by decide +kernel
theorem dX5_spread_53 : decode cX5_spread 53 = .ok (.aload_n 0, 1) := by decide +kernel
theorem dX5_spread_54 : decode cX5_spread 54 = .ok (.getfield 28, 3) := by decide +kernel
theorem dX5_spread_57 : decode cX5_spread 57 = .ok (.invokevirtual 186, 3) := by decide +kernel
theorem dX5_spread_60 : decode cX5_spread 60 = .ok (.istore_n 3, 1) := by decide +kernel
theorem dX5_spread_61 : decode cX5_spread 61 = .ok (.iconst 1, 1) := by decide +kernel
theorem dX5_spread_62 : decode cX5_spread 62 = .ok (.istore 4, 2) := by decide +kernel
theorem dX5_spread_64 : decode cX5_spread 64 = .ok (.iconst 1, 1) := by decide +kernel
theorem dX5_spread_65 : decode cX5_spread 65 = .ok (.istore 5, 2) := by decide +kernel
theorem dX5_spread_67 : decode cX5_spread 67 = .ok (.iload 5, 2) := by decide +kernel
theorem dX5_spread_69 : decode cX5_spread 69 = .ok (.aload_n 0, 1) := by decide +kernel
theorem dX5_spread_70 : decode cX5_spread 70 = .ok (.getfield 12, 3) := by decide +kernel
theorem dX5_spread_73 : decode cX5_spread 73 = .ok (.getfield 174, 3) := by decide +kernel
theorem dX5_spread_76 : decode cX5_spread 76 = .ok (.if_icmp .ge 26, 3) := by decide +kernel
theorem dX5_spread_79 : decode cX5_spread 79 = .ok (.iload 4, 2) := by decide +kernel
theorem dX5_spread_81 : decode cX5_spread 81 = .ok (.iload_n 3, 1) := by decide +kernel
theorem dX5_spread_82 : decode cX5_spread 82 = .ok (.aload_n 0, 1) := by decide +kernel
theorem dX5_spread_83 : decode cX5_spread 83 = .ok (.getfield 12, 3) := by decide +kernel
theorem dX5_spread_86 : decode cX5_spread 86 = .ok (.iload 4, 2) := by decide +kernel
theorem dX5_spread_88 : decode cX5_spread 88 = .ok (.iload_n 2, 1) := by decide +kernel
theorem dX5_spread_89 : decode cX5_spread 89 = .ok (.invokevirtual 212, 3) := by decide +kernel
theorem dX5_spread_92 : decode cX5_spread 92 = .ok (.iand, 1) := by decide +kernel
theorem dX5_spread_93 : decode cX5_spread 93 = .ok (.ior, 1) := by decide +kernel
theorem dX5_spread_94 : decode cX5_spread 94 = .ok (.istore 4, 2) := by decide +kernel
theorem dX5_spread_96 : decode cX5_spread 96 = .ok (.iinc 5 1, 3) := by decide +kernel
theorem dX5_spread_99 : decode cX5_spread 99 = .ok (.goto (-32), 3) := by decide +kernel
theorem dX5_spread_102 : decode cX5_spread 102 = .ok (.iload 4, 2) := by decide +kernel
theorem dX5_spread_104 : decode cX5_spread 104 = .ok (.ireturn, 1) := by decide +kernel
set_option maxRecDepth 20000 in
theorem ggX5_feed_X5_isIn : GoodIn wsX5_feed wsX5_isIn := goodIn_r _ [8] (by decide +kernel) (by decide +kernel)
set_option maxRecDepth 20000 in
theorem gX5_feed_X5_isIn : GoodIn wsX5_feed (va_wsS RX5 59 yX5_isIn wsX5_isIn) := goodIn_app (goodIn_of _ (by decide +kernel)) ggX5_feed_X5_isIn
set_option maxRecDepth 20000 in
theorem ggX5_feed_X5_found : GoodIn wsX5_feed wsX5_found := goodIn_r _ [12, 1, 13, 5, 6, 7, 8, 21, 22, 23, 24, 25, 26, 27, 28] (by decide +kernel) (by decide +kernel)
set_option maxRecDepth 20000 in
theorem gX5_feed_X5_found : GoodIn wsX5_feed (wsV RX5 64 RX5 yX5_found wsX5_found) := goodIn_app (goodIn_of _ (by decide +kernel)) ggX5_feed_X5_found
set_option maxRecDepth 20000 in
theorem ggX5_feed_X4_put : GoodIn wsX5_feed wsX4_put := goodIn_r _ [18, 19, 20, 29, 30] (by decide +kernel) (by decide +kernel)
set_option maxRecDepth 20000 in
theorem gX5_feed_X4_put : GoodIn wsX5_feed (wsV RX5 218 RX4 yX4_put wsX4_put) := goodIn_app (goodIn_of _ (by decide +kernel)) ggX5_feed_X4_put
theorem dX5_feed_0 : decode cX5_feed 0 = .ok (.iload_n 2, 1) := by decide +kernel
theorem dX5_feed_1 : decode cX5_feed 1 = .ok (.iconst 1, 1) := by decide +kernel
theorem dX5_feed_2 : decode cX5_feed 2 = .ok (.iconst 4, 1) := by decide +kernel
theorem dX5_feed_3 : decode cX5_feed 3 = .ok (.invokestatic 59, 3) := by decide +kernel
theorem dX5_feed_6 : decode cX5_feed 6 = .ok (.ifCond .ne 10, 3) := by decide +kernel
theorem dX5_feed_9 : decode cX5_feed 9 = .ok (.aload_n 0, 1) := by decide +kernel
theorem dX5_feed_10 : decode cX5_feed 10 = .ok (.ldc 63, 2) := by decide +kernel
theorem dX5_feed_12 : decode cX5_feed 12 = .ok (.invokevirtual 64, 3) := by decide +kernel
theorem dX5_feed_15 : decode cX5_feed 15 = .ok (.ireturn, 1) := by decide +kernel
theorem dX5_feed_16 : decode cX5_feed 16 = .ok (.aload_n 0, 1) := by decide +kernel
theorem dX5_feed_17 : decode cX5_feed 17 = .ok (.getfield 35, 3) := by decide +kernel
theorem dX5_feed_20 : decode cX5_feed 20 = .ok (.getfield 215, 3) := by decide +kernel
theorem dX5_feed_23 : decode cX5_feed 23 = .ok (.iload_n 2, 1) := by decide +kernel
theorem dX5_feed_24 : decode cX5_feed 24 = .ok (.iadd, 1) := by decide +kernel
theorem dX5_feed_25 : decode cX5_feed 25 = .ok (.bipush 120, 2) := by decide +kernel
theorem dX5_feed_27 : decode cX5_feed 27 = .ok (.if_icmp .le 10, 3) := by decide +kernel
theorem dX5_feed_30 : decode cX5_feed 30 = .ok (.aload_n 0, 1) := by decide +kernel
theorem dX5_feed_31 : decode cX5_feed 31 = .ok (.ldc 72, 2) := by decide +kernel
theorem dX5_feed_33 : decode cX5_feed 33 = .ok (.invokevirtual 64, 3) := by decide +kernel
theorem dX5_feed_36 : decode cX5_feed 36 = .ok (.ireturn, 1) := by decide +kernel
theorem dX5_feed_37 : decode cX5_feed 37 = .ok (.iload_n 2, 1) := by decide +kernel
theorem dX5_feed_38 : decode cX5_feed 38 = .ok (.iconst 1, 1) := by decide +kernel
theorem dX5_feed_39 : decode cX5_feed 39 = .ok (.isub, 1) := by decide +kernel
theorem dX5_feed_40 : decode cX5_feed 40 = .ok (.istore_n 3, 1) := by decide +kernel
theorem dX5_feed_41 : decode cX5_feed 41 = .ok (.iload_n 3, 1) := by decide +kernel
theorem dX5_feed_42 : decode cX5_feed 42 = .ok (.ifCond .lt 22, 3) := by decide +kernel
theorem dX5_feed_45 : decode cX5_feed 45 = .ok (.aload_n 0, 1) := by decide +kernel
theorem dX5_feed_46 : decode cX5_feed 46 = .ok (.getfield 35, 3) := by decide +kernel
theorem dX5_feed_49 : decode cX5_feed 49 = .ok (.iload_n 1, 1) := by decide +kernel
theorem dX5_feed_50 : decode cX5_feed 50 = .ok (.bipush 8, 2) := by decide +kernel
theorem dX5_feed_52 : decode cX5_feed 52 = .ok (.iload_n 3, 1) := by decide +kernel
theorem dX5_feed_53 : decode cX5_feed 53 = .ok (.imul, 1) := by decide +kernel
theorem dX5_feed_54 : decode cX5_feed 54 = .ok (.iushr, 1) := by decide +kernel
theorem dX5_feed_55 : decode cX5_feed 55 = .ok (.invokevirtual 218, 3) := by decide +kernel
theorem dX5_feed_58 : decode cX5_feed 58 = .ok (.iinc 3 (-1), 3) := by decide +kernel
theorem dX5_feed_61 : decode cX5_feed 61 = .ok (.goto (-20), 3) := by decide +kernel
theorem dX5_feed_64 : decode cX5_feed 64 = .ok (.aload_n 0, 1) := by decide +kernel
theorem dX5_feed_65 : decode cX5_feed 65 = .ok (.getfield 35, 3) := by decide +kernel
theorem dX5_feed_68 : decode cX5_feed 68 = .ok (.getfield 215, 3) := by decide +kernel
theorem dX5_feed_71 : decode cX5_feed 71 = .ok (.ireturn, 1) := by decide +kernel
set_option maxRecDepth 20000 in
theorem ggX5_wipe_X4_clear : GoodIn wsX5_wipe wsX4_clear := goodIn_r _ [6, 7, 16, 17] (by decide +kernel) (by decide +kernel)
set_option maxRecDepth 20000 in
theorem gX5_wipe_X4_clear : GoodIn wsX5_wipe (wsV RX5 221 RX4 yX4_clear wsX4_clear) := goodIn_app (goodIn_of _ (by decide +kernel)) ggX5_wipe_X4_clear
theorem dX5_wipe_0 : decode cX5_wipe 0 = .ok (.aload_n 0, 1) := by decide +kernel
theorem dX5_wipe_1 : decode cX5_wipe 1 = .ok (.getfield 35, 3) := by decide +kernel
theorem dX5_wipe_4 : decode cX5_wipe 4 = .ok (.invokevirtual 221, 3) := by decide +kernel
theorem dX5_wipe_7 : decode cX5_wipe 7 = .ok (.ireturn, 1) := by decide +kernel
set_option maxRecDepth 20000 in
theorem ggX5_book_X0_readText : GoodIn wsX5_book wsX0_readText := goodIn_r _ [11, 12, 13, 14, 15, 16, 17, 10, 18, 19, 20, 21, 22, 23, 24, 25, 26, 27, 28, 29, 30, 31, 32, 33, 34, 35, 36, 37, 38, 39, 40, 41, 42, 43, 44, 45, 46, 47, 48, 49, 50, 51, 52, 53, 54, 55, 56, 57, 58, 59, 60, 61, 62, 63, 64, 65, 66, 67, 68, 69, 70, 71, 72, 73, 74, 75, 76, 77, 78, 79, 80, 81, 82, 83, 84, 85, 86, 87, 88, 89, 90, 91, 92, 93, 94, 95, 96, 97, 98, 99, 100, 101, 102, 103, 104, 105, 106, 107, 108, 109, 110, 111, 112, 113, 114, 115, 116, 117, 118, 119, 120, 121, 122, 123, 124, 125, 126, 127, 128, 129, 130, 131, 132, 133, 134, 135, 136, 137, 138, 139, 140, 141, 142, 143, 144, 145, 146, 147, 177, 178, 179, 180, 181, 182, 183, 184, 166, 167, 168, 169, 170, 171, 172, 173, 174, 175, 176] (by decide +kernel) (by decide +kernel)
set_option maxRecDepth 20000 in
theorem gX5_book_X0_readText : GoodIn wsX5_book (wsV RX5 224 RX0 yX0_readText wsX0_readText) := goodIn_app (goodIn_of _ (by decide +kernel)) ggX5_book_X0_readText
set_option maxRecDepth 20000 in
theorem ggX5_book_X3_shrinkTo : GoodIn wsX5_book wsX3_shrinkTo := goodIn_r _ [151, 117, 131, 147, 166, 167, 168, 169, 170, 171, 172, 173, 174, 175, 176] (by decide +kernel) (by decide +kernel)
set_option maxRecDepth 20000 in
theorem gX5_book_X3_shrinkTo : GoodIn wsX5_book (wsV RX5 227 RX3 yX3_shrinkTo wsX3_shrinkTo) := goodIn_app (goodIn_of _ (by decide +kernel)) ggX5_book_X3_shrinkTo
set_option maxRecDepth 20000 in
theorem ggX5_book_X4_clear : GoodIn wsX5_book wsX4_clear := goodIn_r _ [156, 157, 183, 184] (by decide +kernel) (by decide +kernel)
set_option maxRecDepth 20000 in
theorem gX5_book_X4_clear : GoodIn wsX5_book (wsV RX5 221 RX4 yX4_clear wsX4_clear) := goodIn_app (goodIn_of _ (by decide +kernel)) ggX5_book_X4_clear
theorem dX5_book_0 : decode cX5_book 0 = .ok (.aload_n 0, 1) := by decide +kernel
theorem dX5_book_1 : decode cX5_book 1 = .ok (.getfield 12, 3) := by decide +kernel
theorem dX5_book_4 : decode cX5_book 4 = .ok (.getfield 68, 3) := by decide +kernel
theorem dX5_book_7 : decode cX5_book 7 = .ok (.istore_n 1, 1) := by decide +kernel
theorem dX5_book_8 : decode cX5_book 8 = .ok (.aload_n 0, 1) := by decide +kernel
theorem dX5_book_9 : decode cX5_book 9 = .ok (.getfield 12, 3) := by decide +kernel
theorem dX5_book_12 : decode cX5_book 12 = .ok (.getfield 113, 3) := by decide +kernel
theorem dX5_book_15 : decode cX5_book 15 = .ok (.istore_n 2, 1) := by decide +kernel
theorem dX5_book_16 : decode cX5_book 16 = .ok (.aload_n 0, 1) := by decide +kernel
theorem dX5_book_17 : decode cX5_book 17 = .ok (.getfield 12, 3) := by decide +kernel
theorem dX5_book_20 : decode cX5_book 20 = .ok (.getfield 174, 3) := by decide +kernel
theorem dX5_book_23 : decode cX5_book 23 = .ok (.istore_n 3, 1) := by decide +kernel
theorem dX5_book_24 : decode cX5_book 24 = .ok (.aload_n 0, 1) := by decide +kernel
theorem dX5_book_25 : decode cX5_book 25 = .ok (.getfield 44, 3) := by decide +kernel
theorem dX5_book_28 : decode cX5_book 28 = .ok (.invokevirtual 224, 3) := by decide +kernel
theorem dX5_book_31 : decode cX5_book 31 = .ok (.istore 4, 2) := by decide +kernel
theorem dX5_book_33 : decode cX5_book 33 = .ok (.iload 4, 2) := by decide +kernel
theorem dX5_book_35 : decode cX5_book 35 = .ok (.ifCond .ge 13, 3) := by decide +kernel
theorem dX5_book_38 : decode cX5_book 38 = .ok (.aload_n 0, 1) := by decide +kernel
theorem dX5_book_39 : decode cX5_book 39 = .ok (.getfield 12, 3) := by decide +kernel
theorem dX5_book_42 : decode cX5_book 42 = .ok (.iload_n 1, 1) := by decide +kernel
theorem dX5_book_43 : decode cX5_book 43 = .ok (.iload_n 2, 1) := by decide +kernel
theorem dX5_book_44 : decode cX5_book 44 = .ok (.iload_n 3, 1) := by decide +kernel
theorem dX5_book_45 : decode cX5_book 45 = .ok (.invokevirtual 227, 3) := by decide +kernel
theorem dX5_book_48 : decode cX5_book 48 = .ok (.aload_n 0, 1) := by decide +kernel
theorem dX5_book_49 : decode cX5_book 49 = .ok (.getfield 35, 3) := by decide +kernel
theorem dX5_book_52 : decode cX5_book 52 = .ok (.invokevirtual 221, 3) := by decide +kernel
theorem dX5_book_55 : decode cX5_book 55 = .ok (.pop, 1) := by decide +kernel
theorem dX5_book_56 : decode cX5_book 56 = .ok (.iload 4, 2) := by decide +kernel
theorem dX5_book_58 : decode cX5_book 58 = .ok (.ireturn, 1) := by decide +kernel
set_option maxRecDepth 20000 in
theorem ggX5_sheet_X5_isIn : GoodIn wsX5_sheet wsX5_isIn := goodIn_r _ [7] (by decide +kernel) (by decide +kernel)
set_option maxRecDepth 20000 in
theorem gX5_sheet_X5_isIn : GoodIn wsX5_sheet (va_wsS RX5 59 yX5_isIn wsX5_isIn) := goodIn_app (goodIn_of _ (by decide +kernel)) ggX5_sheet_X5_isIn
set_option maxRecDepth 20000 in
theorem ggX5_sheet_X5_found : GoodIn wsX5_sheet wsX5_found := goodIn_r _ [11, 1, 12, 4, 5, 6, 7, 21, 22, 23, 24, 25, 26, 27, 28] (by decide +kernel) (by decide +kernel)
set_option maxRecDepth 20000 in
theorem gX5_sheet_X5_found : GoodIn wsX5_sheet (wsV RX5 64 RX5 yX5_found wsX5_found) := goodIn_app (goodIn_of _ (by decide +kernel)) ggX5_sheet_X5_found
set_option maxRecDepth 20000 in
theorem ggX5_sheet_X2_renew : GoodIn wsX5_sheet wsX2_renew := goodIn_r _ [17, 18, 19, 20, 29, 30, 31] (by decide +kernel) (by decide +kernel)
set_option maxRecDepth 20000 in
theorem gX5_sheet_X2_renew : GoodIn wsX5_sheet (wsV RX5 232 RX2 yX2_renew wsX2_renew) := goodIn_app (goodIn_of _ (by decide +kernel)) ggX5_sheet_X2_renew
theorem dX5_sheet_0 : decode cX5_sheet 0 = .ok (.iload_n 2, 1) := by decide +kernel
theorem dX5_sheet_1 : decode cX5_sheet 1 = .ok (.ifCond .eq 21, 3) := by decide +kernel
theorem dX5_sheet_4 : decode cX5_sheet 4 = .ok (.iload_n 2, 1) := by decide +kernel
theorem dX5_sheet_5 : decode cX5_sheet 5 = .ok (.bipush 8, 2) := by decide +kernel
theorem dX5_sheet_7 : decode cX5_sheet 7 = .ok (.if_icmp .eq 15, 3) := by decide +kernel
theorem dX5_sheet_10 : decode cX5_sheet 10 = .ok (.iload_n 2, 1) := by decide +kernel
theorem dX5_sheet_11 : decode cX5_sheet 11 = .ok (.bipush 16, 2) := by decide +kernel
theorem dX5_sheet_13 : decode cX5_sheet 13 = .ok (.if_icmp .eq 9, 3) := by decide +kernel
theorem dX5_sheet_16 : decode cX5_sheet 16 = .ok (.iload_n 2, 1) := by decide +kernel
theorem dX5_sheet_17 : decode cX5_sheet 17 = .ok (.bipush 64, 2) := by decide +kernel
theorem dX5_sheet_19 : decode cX5_sheet 19 = .ok (.if_icmp .ne 7, 3) := by decide +kernel
theorem dX5_sheet_22 : decode cX5_sheet 22 = .ok (.iconst 1, 1) := by decide +kernel
theorem dX5_sheet_23 : decode cX5_sheet 23 = .ok (.goto 4, 3) := by decide +kernel
theorem dX5_sheet_26 : decode cX5_sheet 26 = .ok (.iconst 0, 1) := by decide +kernel
theorem dX5_sheet_27 : decode cX5_sheet 27 = .ok (.istore 4, 2) := by decide +kernel
theorem dX5_sheet_29 : decode cX5_sheet 29 = .ok (.iload_n 1, 1) := by decide +kernel
theorem dX5_sheet_30 : decode cX5_sheet 30 = .ok (.iconst 0, 1) := by decide +kernel
theorem dX5_sheet_31 : decode cX5_sheet 31 = .ok (.iconst 3, 1) := by decide +kernel
theorem dX5_sheet_32 : decode cX5_sheet 32 = .ok (.invokestatic 59, 3) := by decide +kernel
theorem dX5_sheet_35 : decode cX5_sheet 35 = .ok (.ifCond .eq 8, 3) := by decide +kernel
theorem dX5_sheet_38 : decode cX5_sheet 38 = .ok (.iload 4, 2) := by decide +kernel
theorem dX5_sheet_40 : decode cX5_sheet 40 = .ok (.ifCond .ne 10, 3) := by decide +kernel
theorem dX5_sheet_43 : decode cX5_sheet 43 = .ok (.aload_n 0, 1) := by decide +kernel
theorem dX5_sheet_44 : decode cX5_sheet 44 = .ok (.ldc 63, 2) := by decide +kernel
theorem dX5_sheet_46 : decode cX5_sheet 46 = .ok (.invokevirtual 64, 3) := by decide +kernel
theorem dX5_sheet_49 : decode cX5_sheet 49 = .ok (.ireturn, 1) := by decide +kernel
theorem dX5_sheet_50 : decode cX5_sheet 50 = .ok (.iload_n 3, 1) := by decide +kernel
theorem dX5_sheet_51 : decode cX5_sheet 51 = .ok (.ifCond .ge 10, 3) := by decide +kernel
theorem dX5_sheet_54 : decode cX5_sheet 54 = .ok (.aload_n 0, 1) := by decide +kernel
theorem dX5_sheet_55 : decode cX5_sheet 55 = .ok (.ldc 231, 2) := by decide +kernel
theorem dX5_sheet_57 : decode cX5_sheet 57 = .ok (.invokevirtual 64, 3) := by decide +kernel
theorem dX5_sheet_60 : decode cX5_sheet 60 = .ok (.ireturn, 1) := by decide +kernel
theorem dX5_sheet_61 : decode cX5_sheet 61 = .ok (.iload_n 3, 1) := by decide +kernel
theorem dX5_sheet_62 : decode cX5_sheet 62 = .ok (.bipush 40, 2) := by decide +kernel
theorem dX5_sheet_64 : decode cX5_sheet 64 = .ok (.if_icmp .le 10, 3) := by decide +kernel
theorem dX5_sheet_67 : decode cX5_sheet 67 = .ok (.aload_n 0, 1) := by decide +kernel
theorem dX5_sheet_68 : decode cX5_sheet 68 = .ok (.ldc 63, 2) := by decide +kernel
theorem dX5_sheet_70 : decode cX5_sheet 70 = .ok (.invokevirtual 64, 3) := by decide +kernel
theorem dX5_sheet_73 : decode cX5_sheet 73 = .ok (.ireturn, 1) := by decide +kernel
theorem dX5_sheet_74 : decode cX5_sheet 74 = .ok (.aload_n 0, 1) := by decide +kernel
theorem dX5_sheet_75 : decode cX5_sheet 75 = .ok (.getfield 50, 3) := by decide +kernel
theorem dX5_sheet_78 : decode cX5_sheet 78 = .ok (.iload_n 1, 1) := by decide +kernel
theorem dX5_sheet_79 : decode cX5_sheet 79 = .ok (.aaload, 1) := by decide +kernel
theorem dX5_sheet_80 : decode cX5_sheet 80 = .ok (.iload_n 2, 1) := by decide +kernel
theorem dX5_sheet_81 : decode cX5_sheet 81 = .ok (.iload_n 3, 1) := by decide +kernel
theorem dX5_sheet_82 : decode cX5_sheet 82 = .ok (.invokevirtual 232, 3) := by decide +kernel
theorem dX5_sheet_85 : decode cX5_sheet 85 = .ok (.ireturn, 1) := by decide +kernel
set_option maxRecDepth 20000 in
theorem ggX5_write_X5_isIn : GoodIn wsX5_write wsX5_isIn := goodIn_r _ [8] (by decide +kernel) (by decide +kernel)
set_option maxRecDepth 20000 in
theorem gX5_write_X5_isIn : GoodIn wsX5_write (va_wsS RX5 59 yX5_isIn wsX5_isIn) := goodIn_app (goodIn_of _ (by decide +kernel)) ggX5_write_X5_isIn
set_option maxRecDepth 20000 in
theorem ggX5_write_X5_found : GoodIn wsX5_write wsX5_found := goodIn_r _ [12, 1, 13, 5, 6, 7, 8, 29, 30, 31, 32, 33, 34, 35, 36] (by decide +kernel) (by decide +kernel)
set_option maxRecDepth 20000 in
theorem gX5_write_X5_found : GoodIn wsX5_write (wsV RX5 64 RX5 yX5_found wsX5_found) := goodIn_app (goodIn_of _ (by decide +kernel)) ggX5_write_X5_found
set_option maxRecDepth 20000 in
theorem ggX5_write_X2_isMissing : GoodIn wsX5_write wsX2_isMissing := goodIn_r _ [18, 19, 37, 38, 39] (by decide +kernel) (by decide +kernel)
set_option maxRecDepth 20000 in
theorem gX5_write_X2_isMissing : GoodIn wsX5_write (wsV RX5 235 RX2 yX2_isMissing wsX2_isMissing) := goodIn_app (goodIn_of _ (by decide +kernel)) ggX5_write_X2_isMissing
set_option maxRecDepth 20000 in
theorem ggX5_write_X2_put : GoodIn wsX5_write wsX2_put := goodIn_r _ [23, 24, 25, 26, 27, 17, 28, 19, 37, 38, 39] (by decide +kernel) (by decide +kernel)
set_option maxRecDepth 20000 in
theorem gX5_write_X2_put : GoodIn wsX5_write (wsV RX5 241 RX2 yX2_put wsX2_put) := goodIn_app (goodIn_of _ (by decide +kernel)) ggX5_write_X2_put
theorem dX5_write_0 : decode cX5_write 0 = .ok (.iload_n 1, 1) := by decide +kernel
theorem dX5_write_1 : decode cX5_write 1 = .ok (.iconst 0, 1) := by decide +kernel
theorem dX5_write_2 : decode cX5_write 2 = .ok (.iconst 3, 1) := by decide +kernel
theorem dX5_write_3 : decode cX5_write 3 = .ok (.invokestatic 59, 3) := by decide +kernel
theorem dX5_write_6 : decode cX5_write 6 = .ok (.ifCond .ne 11, 3) := by decide +kernel
theorem dX5_write_9 : decode cX5_write 9 = .ok (.aload_n 0, 1) := by decide +kernel
theorem dX5_write_10 : decode cX5_write 10 = .ok (.ldc 63, 2) := by decide +kernel
theorem dX5_write_12 : decode cX5_write 12 = .ok (.invokevirtual 64, 3) := by decide +kernel
theorem dX5_write_15 : decode cX5_write 15 = .ok (.i2l, 1) := by decide +kernel
theorem dX5_write_16 : decode cX5_write 16 = .ok (.lreturn, 1) := by decide +kernel
theorem dX5_write_17 : decode cX5_write 17 = .ok (.aload_n 0, 1) := by decide +kernel
theorem dX5_write_18 : decode cX5_write 18 = .ok (.getfield 50, 3) := by decide +kernel
theorem dX5_write_21 : decode cX5_write 21 = .ok (.iload_n 1, 1) := by decide +kernel
theorem dX5_write_22 : decode cX5_write 22 = .ok (.aaload, 1) := by decide +kernel
theorem dX5_write_23 : decode cX5_write 23 = .ok (.astore 5, 2) := by decide +kernel
theorem dX5_write_25 : decode cX5_write 25 = .ok (.aload 5, 2) := by decide +kernel
theorem dX5_write_27 : decode cX5_write 27 = .ok (.invokevirtual 235, 3) := by decide +kernel
theorem dX5_write_30 : decode cX5_write 30 = .ok (.ifCond .eq 11, 3) := by decide +kernel
theorem dX5_write_33 : decode cX5_write 33 = .ok (.aload_n 0, 1) := by decide +kernel
theorem dX5_write_34 : decode cX5_write 34 = .ok (.ldc 239, 2) := by decide +kernel
theorem dX5_write_36 : decode cX5_write 36 = .ok (.invokevirtual 64, 3) := by decide +kernel
theorem dX5_write_39 : decode cX5_write 39 = .ok (.i2l, 1) := by decide +kernel
theorem dX5_write_40 : decode cX5_write 40 = .ok (.lreturn, 1) := by decide +kernel
theorem dX5_write_41 : decode cX5_write 41 = .ok (.iload_n 2, 1) := by decide +kernel
theorem dX5_write_42 : decode cX5_write 42 = .ok (.iconst 0, 1) := by decide +kernel
theorem dX5_write_43 : decode cX5_write 43 = .ok (.aload 5, 2) := by decide +kernel
theorem dX5_write_45 : decode cX5_write 45 = .ok (.getfield 240, 3) := by decide +kernel
theorem dX5_write_48 : decode cX5_write 48 = .ok (.iconst 1, 1) := by decide +kernel
theorem dX5_write_49 : decode cX5_write 49 = .ok (.isub, 1) := by decide +kernel
theorem dX5_write_50 : decode cX5_write 50 = .ok (.invokestatic 59, 3) := by decide +kernel
theorem dX5_write_53 : decode cX5_write 53 = .ok (.ifCond .eq 13, 3) := by decide +kernel
theorem dX5_write_56 : decode cX5_write 56 = .ok (.aload 5, 2) := by decide +kernel
theorem dX5_write_58 : decode cX5_write 58 = .ok (.iload_n 2, 1) := by decide +kernel
theorem dX5_write_59 : decode cX5_write 59 = .ok (.lload_n 3, 1) := by decide +kernel
theorem dX5_write_60 : decode cX5_write 60 = .ok (.invokevirtual 241, 3) := by decide +kernel
theorem dX5_write_63 : decode cX5_write 63 = .ok (.goto 10, 3) := by decide +kernel
theorem dX5_write_66 : decode cX5_write 66 = .ok (.aload_n 0, 1) := by decide +kernel
theorem dX5_write_67 : decode cX5_write 67 = .ok (.ldc 63, 2) := by decide +kernel
theorem dX5_write_69 : decode cX5_write 69 = .ok (.invokevirtual 64, 3) := by decide +kernel
theorem dX5_write_72 : decode cX5_write 72 = .ok (.i2l, 1) := by decide +kernel
theorem dX5_write_73 : decode cX5_write 73 = .ok (.lreturn, 1) := by decide +kernel
set_option maxRecDepth 20000 in
theorem ggX5_copy_X5_isIn : GoodIn wsX5_copy wsX5_isIn := goodIn_r _ [14] (by decide +kernel) (by decide +kernel)
set_option maxRecDepth 20000 in
theorem gX5_copy_X5_isIn : GoodIn wsX5_copy (va_wsS RX5 59 yX5_isIn wsX5_isIn) := goodIn_app (goodIn_of _ (by decide +kernel)) ggX5_copy_X5_isIn
set_option maxRecDepth 20000 in
theorem ggX5_copy_X5_found : GoodIn wsX5_copy wsX5_found := goodIn_r _ [18, 1, 19, 11, 12, 13, 14, 31, 32, 33, 34, 35, 36, 37, 38] (by decide +kernel) (by decide +kernel)
set_option maxRecDepth 20000 in
theorem gX5_copy_X5_found : GoodIn wsX5_copy (wsV RX5 64 RX5 yX5_found wsX5_found) := goodIn_app (goodIn_of _ (by decide +kernel)) ggX5_copy_X5_found
set_option maxRecDepth 20000 in
theorem ggX5_copy_X2_isMissing : GoodIn wsX5_copy wsX2_isMissing := goodIn_r _ [24, 25, 39, 40, 41] (by decide +kernel) (by decide +kernel)
set_option maxRecDepth 20000 in
theorem gX5_copy_X2_isMissing : GoodIn wsX5_copy (wsV RX5 235 RX2 yX2_isMissing wsX2_isMissing) := goodIn_app (goodIn_of _ (by decide +kernel)) ggX5_copy_X2_isMissing
set_option maxRecDepth 20000 in
theorem ggX5_copy_X2_holds : GoodIn wsX5_copy wsX2_holds := goodIn_r _ [29, 30, 39, 40, 41] (by decide +kernel) (by decide +kernel)
set_option maxRecDepth 20000 in
theorem gX5_copy_X2_holds : GoodIn wsX5_copy (wsV RX5 247 RX2 yX2_holds wsX2_holds) := goodIn_app (goodIn_of _ (by decide +kernel)) ggX5_copy_X2_holds
theorem dX5_copy_0 : decode cX5_copy 0 = .ok (.iload_n 1, 1) := by decide +kernel
theorem dX5_copy_1 : decode cX5_copy 1 = .ok (.iconst 0, 1) := by decide +kernel
theorem dX5_copy_2 : decode cX5_copy 2 = .ok (.iconst 3, 1) := by decide +kernel
theorem dX5_copy_3 : decode cX5_copy 3 = .ok (.invokestatic 59, 3) := by decide +kernel
theorem dX5_copy_6 : decode cX5_copy 6 = .ok (.ifCond .eq 12, 3) := by decide +kernel
theorem dX5_copy_9 : decode cX5_copy 9 = .ok (.iload_n 3, 1) := by decide +kernel
theorem dX5_copy_10 : decode cX5_copy 10 = .ok (.iconst 0, 1) := by decide +kernel
theorem dX5_copy_11 : decode cX5_copy 11 = .ok (.iconst 3, 1) := by decide +kernel
theorem dX5_copy_12 : decode cX5_copy 12 = .ok (.invokestatic 59, 3) := by decide +kernel
theorem dX5_copy_15 : decode cX5_copy 15 = .ok (.ifCond .ne 10, 3) := by decide +kernel
theorem dX5_copy_18 : decode cX5_copy 18 = .ok (.aload_n 0, 1) := by decide +kernel
theorem dX5_copy_19 : decode cX5_copy 19 = .ok (.ldc 63, 2) := by decide +kernel
theorem dX5_copy_21 : decode cX5_copy 21 = .ok (.invokevirtual 64, 3) := by decide +kernel
theorem dX5_copy_24 : decode cX5_copy 24 = .ok (.ireturn, 1) := by decide +kernel
theorem dX5_copy_25 : decode cX5_copy 25 = .ok (.aload_n 0, 1) := by decide +kernel
theorem dX5_copy_26 : decode cX5_copy 26 = .ok (.getfield 50, 3) := by decide +kernel
theorem dX5_copy_29 : decode cX5_copy 29 = .ok (.iload_n 1, 1) := by decide +kernel
theorem dX5_copy_30 : decode cX5_copy 30 = .ok (.aaload, 1) := by decide +kernel
theorem dX5_copy_31 : decode cX5_copy 31 = .ok (.astore 6, 2) := by decide +kernel
theorem dX5_copy_33 : decode cX5_copy 33 = .ok (.aload_n 0, 1) := by decide +kernel
theorem dX5_copy_34 : decode cX5_copy 34 = .ok (.getfield 50, 3) := by decide +kernel
theorem dX5_copy_37 : decode cX5_copy 37 = .ok (.iload_n 3, 1) := by decide +kernel
theorem dX5_copy_38 : decode cX5_copy 38 = .ok (.aaload, 1) := by decide +kernel
theorem dX5_copy_39 : decode cX5_copy 39 = .ok (.astore 7, 2) := by decide +kernel
theorem dX5_copy_41 : decode cX5_copy 41 = .ok (.aload 6, 2) := by decide +kernel
theorem dX5_copy_43 : decode cX5_copy 43 = .ok (.invokevirtual 235, 3) := by decide +kernel
theorem dX5_copy_46 : decode cX5_copy 46 = .ok (.ifCond .ne 11, 3) := by decide +kernel
theorem dX5_copy_49 : decode cX5_copy 49 = .ok (.aload 7, 2) := by decide +kernel
theorem dX5_copy_51 : decode cX5_copy 51 = .ok (.invokevirtual 235, 3) := by decide +kernel
theorem dX5_copy_54 : decode cX5_copy 54 = .ok (.ifCond .eq 10, 3) := by decide +kernel
theorem dX5_copy_57 : decode cX5_copy 57 = .ok (.aload_n 0, 1) := by decide +kernel
theorem dX5_copy_58 : decode cX5_copy 58 = .ok (.ldc 239, 2) := by decide +kernel
theorem dX5_copy_60 : decode cX5_copy 60 = .ok (.invokevirtual 64, 3) := by decide +kernel
theorem dX5_copy_63 : decode cX5_copy 63 = .ok (.ireturn, 1) := by decide +kernel
theorem dX5_copy_64 : decode cX5_copy 64 = .ok (.aload 6, 2) := by decide +kernel
theorem dX5_copy_66 : decode cX5_copy 66 = .ok (.getfield 244, 3) := by decide +kernel
theorem dX5_copy_69 : decode cX5_copy 69 = .ok (.aload 7, 2) := by decide +kernel
theorem dX5_copy_71 : decode cX5_copy 71 = .ok (.getfield 244, 3) := by decide +kernel
theorem dX5_copy_74 : decode cX5_copy 74 = .ok (.if_icmp .eq 10, 3) := by decide +kernel
theorem dX5_copy_77 : decode cX5_copy 77 = .ok (.aload_n 0, 1) := by decide +kernel
theorem dX5_copy_78 : decode cX5_copy 78 = .ok (.ldc 104, 2) := by decide +kernel
theorem dX5_copy_80 : decode cX5_copy 80 = .ok (.invokevirtual 64, 3) := by decide +kernel
theorem dX5_copy_83 : decode cX5_copy 83 = .ok (.ireturn, 1) := by decide +kernel
theorem dX5_copy_84 : decode cX5_copy 84 = .ok (.aload 6, 2) := by decide +kernel
theorem dX5_copy_86 : decode cX5_copy 86 = .ok (.iload_n 2, 1) := by decide +kernel
theorem dX5_copy_87 : decode cX5_copy 87 = .ok (.iload 5, 2) := by decide +kernel
theorem dX5_copy_89 : decode cX5_copy 89 = .ok (.invokevirtual 247, 3) := by decide +kernel
theorem dX5_copy_92 : decode cX5_copy 92 = .ok (.ifCond .eq 15, 3) := by decide +kernel
theorem dX5_copy_95 : decode cX5_copy 95 = .ok (.aload 7, 2) := by decide +kernel
theorem dX5_copy_97 : decode cX5_copy 97 = .ok (.iload 4, 2) := by decide +kernel
theorem dX5_copy_99 : decode cX5_copy 99 = .ok (.iload 5, 2) := by decide +kernel
theorem dX5_copy_101 : decode cX5_copy 101 = .ok (.invokevirtual 247, 3) := by decide +kernel
theorem dX5_copy_104 : decode cX5_copy 104 = .ok (.ifCond .ne 10, 3) := by decide +kernel
theorem dX5_copy_107 : decode cX5_copy 107 = .ok (.aload_n 0, 1) := by decide +kernel
theorem dX5_copy_108 : decode cX5_copy 108 = .ok (.ldc 63, 2) := by decide +kernel
theorem dX5_copy_110 : decode cX5_copy 110 = .ok (.invokevirtual 64, 3) := by decide +kernel
theorem dX5_copy_113 : decode cX5_copy 113 = .ok (.ireturn, 1) := by decide +kernel
theorem dX5_copy_114 : decode cX5_copy 114 = .ok (.aload 6, 2) := by decide +kernel
theorem dX5_copy_116 : decode cX5_copy 116 = .ok (.getfield 250, 3) := by decide +kernel
theorem dX5_copy_119 : decode cX5_copy 119 = .ok (.iload_n 2, 1) := by decide +kernel
theorem dX5_copy_120 : decode cX5_copy 120 = .ok (.aload 7, 2) := by decide +kernel
theorem dX5_copy_122 : decode cX5_copy 122 = .ok (.getfield 250, 3) := by decide +kernel
theorem dX5_copy_125 : decode cX5_copy 125 = .ok (.iload 4, 2) := by decide +kernel
theorem dX5_copy_127 : decode cX5_copy 127 = .ok (.iload 5, 2) := by decide +kernel
theorem dX5_copy_129 : decode cX5_copy 129 = .ok (.invokestatic 254, 3) := by decide +kernel
theorem dX5_copy_132 : decode cX5_copy 132 = .ok (.iload 5, 2) := by decide +kernel
theorem dX5_copy_134 : decode cX5_copy 134 = .ok (.ireturn, 1) := by decide +kernel
set_option maxRecDepth 20000 in
theorem ggX5_lays_X5_isIn : GoodIn wsX5_lays wsX5_isIn := goodIn_r _ [13] (by decide +kernel) (by decide +kernel)
set_option maxRecDepth 20000 in
theorem gX5_lays_X5_isIn : GoodIn wsX5_lays (va_wsS RX5 59 yX5_isIn wsX5_isIn) := goodIn_app (goodIn_of _ (by decide +kernel)) ggX5_lays_X5_isIn
set_option maxRecDepth 20000 in
theorem ggX5_lays_X5_found : GoodIn wsX5_lays wsX5_found := goodIn_r _ [17, 1, 18, 10, 11, 12, 13, 25, 26, 27, 28, 29, 30, 31, 32] (by decide +kernel) (by decide +kernel)
set_option maxRecDepth 20000 in
theorem gX5_lays_X5_found : GoodIn wsX5_lays (wsV RX5 64 RX5 yX5_found wsX5_found) := goodIn_app (goodIn_of _ (by decide +kernel)) ggX5_lays_X5_found
set_option maxRecDepth 20000 in
theorem ggX5_lays_X2_isMissing : GoodIn wsX5_lays wsX2_isMissing := goodIn_r _ [23, 24, 44, 45, 46] (by decide +kernel) (by decide +kernel)
set_option maxRecDepth 20000 in
theorem gX5_lays_X2_isMissing : GoodIn wsX5_lays (wsV RX5 235 RX2 yX2_isMissing wsX2_isMissing) := goodIn_app (goodIn_of _ (by decide +kernel)) ggX5_lays_X2_isMissing
theorem dX5_lays_0 : decode cX5_lays 0 = .ok (.iload_n 1, 1) := by decide +kernel
theorem dX5_lays_1 : decode cX5_lays 1 = .ok (.iconst 0, 1) := by decide +kernel
theorem dX5_lays_2 : decode cX5_lays 2 = .ok (.iconst 3, 1) := by decide +kernel
theorem dX5_lays_3 : decode cX5_lays 3 = .ok (.invokestatic 59, 3) := by decide +kernel
theorem dX5_lays_6 : decode cX5_lays 6 = .ok (.ifCond .ne 10, 3) := by decide +kernel
theorem dX5_lays_9 : decode cX5_lays 9 = .ok (.aload_n 0, 1) := by decide +kernel
theorem dX5_lays_10 : decode cX5_lays 10 = .ok (.ldc 63, 2) := by decide +kernel
theorem dX5_lays_12 : decode cX5_lays 12 = .ok (.invokevirtual 64, 3) := by decide +kernel
theorem dX5_lays_15 : decode cX5_lays 15 = .ok (.ireturn, 1) := by decide +kernel
theorem dX5_lays_16 : decode cX5_lays 16 = .ok (.aload_n 0, 1) := by decide +kernel
theorem dX5_lays_17 : decode cX5_lays 17 = .ok (.getfield 50, 3) := by decide +kernel
theorem dX5_lays_20 : decode cX5_lays 20 = .ok (.iload_n 1, 1) := by decide +kernel
theorem dX5_lays_21 : decode cX5_lays 21 = .ok (.aaload, 1) := by decide +kernel
theorem dX5_lays_22 : decode cX5_lays 22 = .ok (.astore_n 2, 1) := by decide +kernel
theorem dX5_lays_23 : decode cX5_lays 23 = .ok (.aload_n 2, 1) := by decide +kernel
theorem dX5_lays_24 : decode cX5_lays 24 = .ok (.invokevirtual 235, 3) := by decide +kernel
theorem dX5_lays_27 : decode cX5_lays 27 = .ok (.ifCond .eq 10, 3) := by decide +kernel
theorem dX5_lays_30 : decode cX5_lays 30 = .ok (.aload_n 0, 1) := by decide +kernel
theorem dX5_lays_31 : decode cX5_lays 31 = .ok (.ldc 239, 2) := by decide +kernel
theorem dX5_lays_33 : decode cX5_lays 33 = .ok (.invokevirtual 64, 3) := by decide +kernel
theorem dX5_lays_36 : decode cX5_lays 36 = .ok (.ireturn, 1) := by decide +kernel
theorem dX5_lays_37 : decode cX5_lays 37 = .ok (.iconst 0, 1) := by decide +kernel
theorem dX5_lays_38 : decode cX5_lays 38 = .ok (.istore_n 3, 1) := by decide +kernel
theorem dX5_lays_39 : decode cX5_lays 39 = .ok (.iconst 0, 1) := by decide +kernel
theorem dX5_lays_40 : decode cX5_lays 40 = .ok (.istore 4, 2) := by decide +kernel
theorem dX5_lays_42 : decode cX5_lays 42 = .ok (.iload 4, 2) := by decide +kernel
theorem dX5_lays_44 : decode cX5_lays 44 = .ok (.aload_n 0, 1) := by decide +kernel
theorem dX5_lays_45 : decode cX5_lays 45 = .ok (.getfield 12, 3) := by decide +kernel
theorem dX5_lays_48 : decode cX5_lays 48 = .ok (.getfield 174, 3) := by decide +kernel
theorem dX5_lays_51 : decode cX5_lays 51 = .ok (.if_icmp .ge 59, 3) := by decide +kernel
theorem dX5_lays_54 : decode cX5_lays 54 = .ok (.iload 4, 2) := by decide +kernel
theorem dX5_lays_56 : decode cX5_lays 56 = .ok (.aload_n 2, 1) := by decide +kernel
theorem dX5_lays_57 : decode cX5_lays 57 = .ok (.getfield 240, 3) := by decide +kernel
theorem dX5_lays_60 : decode cX5_lays 60 = .ok (.if_icmp .ge 50, 3) := by decide +kernel
theorem dX5_lays_63 : decode cX5_lays 63 = .ok (.aload_n 2, 1) := by decide +kernel
theorem dX5_lays_64 : decode cX5_lays 64 = .ok (.getfield 250, 3) := by decide +kernel
theorem dX5_lays_67 : decode cX5_lays 67 = .ok (.iload 4, 2) := by decide +kernel
theorem dX5_lays_69 : decode cX5_lays 69 = .ok (.laload, 1) := by decide +kernel
theorem dX5_lays_70 : decode cX5_lays 70 = .ok (.lstore 5, 2) := by decide +kernel
theorem dX5_lays_72 : decode cX5_lays 72 = .ok (.lload 5, 2) := by decide +kernel
theorem dX5_lays_74 : decode cX5_lays 74 = .ok (.lconst 0, 1) := by decide +kernel
theorem dX5_lays_75 : decode cX5_lays 75 = .ok (.lcmp, 1) := by decide +kernel
theorem dX5_lays_76 : decode cX5_lays 76 = .ok (.ifCond .lt 28, 3) := by decide +kernel
theorem dX5_lays_79 : decode cX5_lays 79 = .ok (.lload 5, 2) := by decide +kernel
theorem dX5_lays_81 : decode cX5_lays 81 = .ok (.ldc2_w 260, 3) := by decide +kernel
theorem dX5_lays_84 : decode cX5_lays 84 = .ok (.lcmp, 1) := by decide +kernel
theorem dX5_lays_85 : decode cX5_lays 85 = .ok (.ifCond .gt 19, 3) := by decide +kernel
theorem dX5_lays_88 : decode cX5_lays 88 = .ok (.aload_n 0, 1) := by decide +kernel
theorem dX5_lays_89 : decode cX5_lays 89 = .ok (.getfield 12, 3) := by decide +kernel
theorem dX5_lays_92 : decode cX5_lays 92 = .ok (.getfield 183, 3) := by decide +kernel
theorem dX5_lays_95 : decode cX5_lays 95 = .ok (.iload 4, 2) := by decide +kernel
theorem dX5_lays_97 : decode cX5_lays 97 = .ok (.lload 5, 2) := by decide +kernel
theorem dX5_lays_99 : decode cX5_lays 99 = .ok (.l2i, 1) := by decide +kernel
theorem dX5_lays_100 : decode cX5_lays 100 = .ok (.iastore, 1) := by decide +kernel
theorem dX5_lays_101 : decode cX5_lays 101 = .ok (.iinc 3 1, 3) := by decide +kernel
theorem dX5_lays_104 : decode cX5_lays 104 = .ok (.iinc 4 1, 3) := by decide +kernel
theorem dX5_lays_107 : decode cX5_lays 107 = .ok (.goto (-65), 3) := by decide +kernel
theorem dX5_lays_110 : decode cX5_lays 110 = .ok (.iload_n 3, 1) := by decide +kernel
theorem dX5_lays_111 : decode cX5_lays 111 = .ok (.ireturn, 1) := by decide +kernel
set_option maxRecDepth 20000 in
theorem ggX5_say_X5_isIn : GoodIn wsX5_say wsX5_isIn := goodIn_r _ [18] (by decide +kernel) (by decide +kernel)
set_option maxRecDepth 20000 in
theorem gX5_say_X5_isIn : GoodIn wsX5_say (va_wsS RX5 59 yX5_isIn wsX5_isIn) := goodIn_app (goodIn_of _ (by decide +kernel)) ggX5_say_X5_isIn
set_option maxRecDepth 20000 in
theorem ggX5_say_X5_found : GoodIn wsX5_say wsX5_found := goodIn_r _ [22, 1, 23, 15, 16, 17, 18, 88, 89, 90, 91, 92, 93, 94, 95] (by decide +kernel) (by decide +kernel)
set_option maxRecDepth 20000 in
theorem gX5_say_X5_found : GoodIn wsX5_say (wsV RX5 64 RX5 yX5_found wsX5_found) := goodIn_app (goodIn_of _ (by decide +kernel)) ggX5_say_X5_found
set_option maxRecDepth 20000 in
theorem ggX5_say_X2_isMissing : GoodIn wsX5_say wsX2_isMissing := goodIn_r _ [28, 29, 107, 108, 109] (by decide +kernel) (by decide +kernel)
set_option maxRecDepth 20000 in
theorem gX5_say_X2_isMissing : GoodIn wsX5_say (wsV RX5 235 RX2 yX2_isMissing wsX2_isMissing) := goodIn_app (goodIn_of _ (by decide +kernel)) ggX5_say_X2_isMissing
set_option maxRecDepth 20000 in
theorem ggX5_say_X3_hasTale : GoodIn wsX5_say wsX3_hasTale := goodIn_r _ [34, 35, 96, 97, 98, 99, 100, 101, 102, 103, 104, 105, 106] (by decide +kernel) (by decide +kernel)
set_option maxRecDepth 20000 in
theorem gX5_say_X3_hasTale : GoodIn wsX5_say (wsV RX5 120 RX3 yX3_hasTale wsX3_hasTale) := goodIn_app (goodIn_of _ (by decide +kernel)) ggX5_say_X3_hasTale
set_option maxRecDepth 20000 in
theorem ggX5_say_X1_findBest : GoodIn wsX5_say wsX1_findBest := goodIn_r _ [40, 41, 42, 43, 44, 45, 46, 47, 48, 39, 49, 50, 51, 52, 33, 53, 54, 55, 56, 57, 58, 59, 60, 61, 62, 63, 64, 65, 66, 67, 68, 69, 70, 71, 72, 73, 74, 75, 76, 77, 78, 110, 111, 112, 113, 114, 115, 116, 96, 97, 98, 99, 100, 101, 102, 103, 104, 105, 106] (by decide +kernel) (by decide +kernel)
set_option maxRecDepth 20000 in
theorem gX5_say_X1_findBest : GoodIn wsX5_say (wsV RX5 157 RX1 yX1_findBest wsX1_findBest) := goodIn_app (goodIn_of _ (by decide +kernel)) ggX5_say_X1_findBest
set_option maxRecDepth 20000 in
theorem ggX5_say_X2_put : GoodIn wsX5_say wsX2_put := goodIn_r _ [82, 83, 84, 85, 86, 27, 87, 29, 107, 108, 109] (by decide +kernel) (by decide +kernel)
set_option maxRecDepth 20000 in
theorem gX5_say_X2_put : GoodIn wsX5_say (wsV RX5 241 RX2 yX2_put wsX2_put) := goodIn_app (goodIn_of _ (by decide +kernel)) ggX5_say_X2_put
theorem dX5_say_0 : decode cX5_say 0 = .ok (.iload_n 1, 1) := by decide +kernel
theorem dX5_say_1 : decode cX5_say 1 = .ok (.iconst 0, 1) := by decide +kernel
theorem dX5_say_2 : decode cX5_say 2 = .ok (.iconst 3, 1) := by decide +kernel
theorem dX5_say_3 : decode cX5_say 3 = .ok (.invokestatic 59, 3) := by decide +kernel
theorem dX5_say_6 : decode cX5_say 6 = .ok (.ifCond .ne 10, 3) := by decide +kernel
theorem dX5_say_9 : decode cX5_say 9 = .ok (.aload_n 0, 1) := by decide +kernel
theorem dX5_say_10 : decode cX5_say 10 = .ok (.ldc 63, 2) := by decide +kernel
theorem dX5_say_12 : decode cX5_say 12 = .ok (.invokevirtual 64, 3) := by decide +kernel
theorem dX5_say_15 : decode cX5_say 15 = .ok (.ireturn, 1) := by decide +kernel
theorem dX5_say_16 : decode cX5_say 16 = .ok (.aload_n 0, 1) := by decide +kernel
theorem dX5_say_17 : decode cX5_say 17 = .ok (.getfield 50, 3) := by decide +kernel
theorem dX5_say_20 : decode cX5_say 20 = .ok (.iload_n 1, 1) := by decide +kernel
theorem dX5_say_21 : decode cX5_say 21 = .ok (.aaload, 1) := by decide +kernel
theorem dX5_say_22 : decode cX5_say 22 = .ok (.astore 4, 2) := by decide +kernel
theorem dX5_say_24 : decode cX5_say 24 = .ok (.aload 4, 2) := by decide +kernel
theorem dX5_say_26 : decode cX5_say 26 = .ok (.invokevirtual 235, 3) := by decide +kernel
theorem dX5_say_29 : decode cX5_say 29 = .ok (.ifCond .eq 10, 3) := by decide +kernel
theorem dX5_say_32 : decode cX5_say 32 = .ok (.aload_n 0, 1) := by decide +kernel
theorem dX5_say_33 : decode cX5_say 33 = .ok (.ldc 239, 2) := by decide +kernel
theorem dX5_say_35 : decode cX5_say 35 = .ok (.invokevirtual 64, 3) := by decide +kernel
theorem dX5_say_38 : decode cX5_say 38 = .ok (.ireturn, 1) := by decide +kernel
theorem dX5_say_39 : decode cX5_say 39 = .ok (.aload_n 0, 1) := by decide +kernel
theorem dX5_say_40 : decode cX5_say 40 = .ok (.getfield 12, 3) := by decide +kernel
theorem dX5_say_43 : decode cX5_say 43 = .ok (.iload_n 2, 1) := by decide +kernel
theorem dX5_say_44 : decode cX5_say 44 = .ok (.invokevirtual 120, 3) := by decide +kernel
theorem dX5_say_47 : decode cX5_say 47 = .ok (.ifCond .eq 13, 3) := by decide +kernel
theorem dX5_say_50 : decode cX5_say 50 = .ok (.iload_n 3, 1) := by decide +kernel
theorem dX5_say_51 : decode cX5_say 51 = .ok (.iconst 0, 1) := by decide +kernel
theorem dX5_say_52 : decode cX5_say 52 = .ok (.bipush 120, 2) := by decide +kernel
theorem dX5_say_54 : decode cX5_say 54 = .ok (.invokestatic 59, 3) := by decide +kernel
theorem dX5_say_57 : decode cX5_say 57 = .ok (.ifCond .ne 10, 3) := by decide +kernel
theorem dX5_say_60 : decode cX5_say 60 = .ok (.aload_n 0, 1) := by decide +kernel
theorem dX5_say_61 : decode cX5_say 61 = .ok (.ldc 63, 2) := by decide +kernel
theorem dX5_say_63 : decode cX5_say 63 = .ok (.invokevirtual 64, 3) := by decide +kernel
theorem dX5_say_66 : decode cX5_say 66 = .ok (.ireturn, 1) := by decide +kernel
theorem dX5_say_67 : decode cX5_say 67 = .ok (.aload_n 0, 1) := by decide +kernel
theorem dX5_say_68 : decode cX5_say 68 = .ok (.getfield 28, 3) := by decide +kernel
theorem dX5_say_71 : decode cX5_say 71 = .ok (.iload_n 2, 1) := by decide +kernel
theorem dX5_say_72 : decode cX5_say 72 = .ok (.iload_n 3, 1) := by decide +kernel
theorem dX5_say_73 : decode cX5_say 73 = .ok (.invokevirtual 157, 3) := by decide +kernel
theorem dX5_say_76 : decode cX5_say 76 = .ok (.ldc 160, 2) := by decide +kernel
theorem dX5_say_78 : decode cX5_say 78 = .ok (.if_icmp .ne 10, 3) := by decide +kernel
theorem dX5_say_81 : decode cX5_say 81 = .ok (.aload_n 0, 1) := by decide +kernel
theorem dX5_say_82 : decode cX5_say 82 = .ok (.ldc 129, 2) := by decide +kernel
theorem dX5_say_84 : decode cX5_say 84 = .ok (.invokevirtual 64, 3) := by decide +kernel
theorem dX5_say_87 : decode cX5_say 87 = .ok (.ireturn, 1) := by decide +kernel
theorem dX5_say_88 : decode cX5_say 88 = .ok (.aload_n 0, 1) := by decide +kernel
theorem dX5_say_89 : decode cX5_say 89 = .ok (.getfield 12, 3) := by decide +kernel
theorem dX5_say_92 : decode cX5_say 92 = .ok (.getfield 123, 3) := by decide +kernel
theorem dX5_say_95 : decode cX5_say 95 = .ok (.iload_n 2, 1) := by decide +kernel
theorem dX5_say_96 : decode cX5_say 96 = .ok (.iaload, 1) := by decide +kernel
theorem dX5_say_97 : decode cX5_say 97 = .ok (.aload 4, 2) := by decide +kernel
theorem dX5_say_99 : decode cX5_say 99 = .ok (.getfield 240, 3) := by decide +kernel
theorem dX5_say_102 : decode cX5_say 102 = .ok (.invokestatic 262, 3) := by decide +kernel
theorem dX5_say_105 : decode cX5_say 105 = .ok (.istore 5, 2) := by decide +kernel
theorem dX5_say_107 : decode cX5_say 107 = .ok (.iconst 0, 1) := by decide +kernel
theorem dX5_say_108 : decode cX5_say 108 = .ok (.istore 6, 2) := by decide +kernel
theorem dX5_say_110 : decode cX5_say 110 = .ok (.iload 6, 2) := by decide +kernel
theorem dX5_say_112 : decode cX5_say 112 = .ok (.iload 5, 2) := by decide +kernel
theorem dX5_say_114 : decode cX5_say 114 = .ok (.if_icmp .ge 28, 3) := by decide +kernel
theorem dX5_say_117 : decode cX5_say 117 = .ok (.aload 4, 2) := by decide +kernel
theorem dX5_say_119 : decode cX5_say 119 = .ok (.iload 6, 2) := by decide +kernel
theorem dX5_say_121 : decode cX5_say 121 = .ok (.aload_n 0, 1) := by decide +kernel
theorem dX5_say_122 : decode cX5_say 122 = .ok (.getfield 28, 3) := by decide +kernel
theorem dX5_say_125 : decode cX5_say 125 = .ok (.getfield 161, 3) := by decide +kernel
theorem dX5_say_128 : decode cX5_say 128 = .ok (.iload 6, 2) := by decide +kernel
theorem dX5_say_130 : decode cX5_say 130 = .ok (.iaload, 1) := by decide +kernel
theorem dX5_say_131 : decode cX5_say 131 = .ok (.i2l, 1) := by decide +kernel
theorem dX5_say_132 : decode cX5_say 132 = .ok (.invokevirtual 241, 3) := by decide +kernel
theorem dX5_say_135 : decode cX5_say 135 = .ok (.pop2, 1) := by decide +kernel
theorem dX5_say_136 : decode cX5_say 136 = .ok (.iinc 6 1, 3) := by decide +kernel
theorem dX5_say_139 : decode cX5_say 139 = .ok (.goto (-29), 3) := by decide +kernel
theorem dX5_say_142 : decode cX5_say 142 = .ok (.iload 5, 2) := by decide +kernel
theorem dX5_say_144 : decode cX5_say 144 = .ok (.ireturn, 1) := by decide +kernel
set_option maxRecDepth 20000 in
theorem ggX5_read_X5_isIn : GoodIn wsX5_read wsX5_isIn := goodIn_r _ [9] (by decide +kernel) (by decide +kernel)
set_option maxRecDepth 20000 in
theorem gX5_read_X5_isIn : GoodIn wsX5_read (va_wsS RX5 59 yX5_isIn wsX5_isIn) := goodIn_app (goodIn_of _ (by decide +kernel)) ggX5_read_X5_isIn
set_option maxRecDepth 20000 in
theorem ggX5_read_X5_found : GoodIn wsX5_read wsX5_found := goodIn_r _ [13, 1, 14, 6, 7, 8, 9, 59, 60, 61, 62, 63, 64, 65, 66] (by decide +kernel) (by decide +kernel)
set_option maxRecDepth 20000 in
theorem gX5_read_X5_found : GoodIn wsX5_read (wsV RX5 64 RX5 yX5_found wsX5_found) := goodIn_app (goodIn_of _ (by decide +kernel)) ggX5_read_X5_found
set_option maxRecDepth 20000 in
theorem ggX5_read_X2_isMissing : GoodIn wsX5_read wsX2_isMissing := goodIn_r _ [19, 20, 78, 79, 80] (by decide +kernel) (by decide +kernel)
set_option maxRecDepth 20000 in
theorem gX5_read_X2_isMissing : GoodIn wsX5_read (wsV RX5 235 RX2 yX2_isMissing wsX2_isMissing) := goodIn_app (goodIn_of _ (by decide +kernel)) ggX5_read_X2_isMissing
set_option maxRecDepth 20000 in
theorem ggX5_read_X3_hasTale : GoodIn wsX5_read wsX3_hasTale := goodIn_r _ [25, 26, 67, 68, 69, 70, 71, 72, 73, 74, 75, 76, 77] (by decide +kernel) (by decide +kernel)
set_option maxRecDepth 20000 in
theorem gX5_read_X3_hasTale : GoodIn wsX5_read (wsV RX5 120 RX3 yX3_hasTale wsX3_hasTale) := goodIn_app (goodIn_of _ (by decide +kernel)) ggX5_read_X3_hasTale
set_option maxRecDepth 20000 in
theorem ggX5_read_X3_hasHearer : GoodIn wsX5_read wsX3_hasHearer := goodIn_r _ [30, 31, 67, 68, 69, 70, 71, 72, 73, 74, 75, 76, 77] (by decide +kernel) (by decide +kernel)
set_option maxRecDepth 20000 in
theorem gX5_read_X3_hasHearer : GoodIn wsX5_read (wsV RX5 180 RX3 yX3_hasHearer wsX3_hasHearer) := goodIn_app (goodIn_of _ (by decide +kernel)) ggX5_read_X3_hasHearer
set_option maxRecDepth 20000 in
theorem ggX5_read_X5_judge : GoodIn wsX5_read wsX5_judge := goodIn_r _ [35, 4, 36, 37, 38, 39, 40, 41, 24, 42, 43, 44, 45, 46, 47, 48, 49, 50, 51, 52, 53, 54, 55, 56, 8, 57, 58, 59, 60, 61, 62, 63, 64, 65, 66, 67, 68, 69, 70, 71, 72, 73, 74, 75, 76, 77, 78, 79, 80] (by decide +kernel) (by decide +kernel)
set_option maxRecDepth 20000 in
theorem gX5_read_X5_judge : GoodIn wsX5_read (wsV RX5 267 RX5 yX5_judge wsX5_judge) := goodIn_app (goodIn_of _ (by decide +kernel)) ggX5_read_X5_judge
theorem dX5_read_0 : decode cX5_read 0 = .ok (.iload_n 1, 1) := by decide +kernel
theorem dX5_read_1 : decode cX5_read 1 = .ok (.iconst 0, 1) := by decide +kernel
theorem dX5_read_2 : decode cX5_read 2 = .ok (.iconst 3, 1) := by decide +kernel
theorem dX5_read_3 : decode cX5_read 3 = .ok (.invokestatic 59, 3) := by decide +kernel
theorem dX5_read_6 : decode cX5_read 6 = .ok (.ifCond .ne 10, 3) := by decide +kernel
theorem dX5_read_9 : decode cX5_read 9 = .ok (.aload_n 0, 1) := by decide +kernel
theorem dX5_read_10 : decode cX5_read 10 = .ok (.ldc 63, 2) := by decide +kernel
theorem dX5_read_12 : decode cX5_read 12 = .ok (.invokevirtual 64, 3) := by decide +kernel
theorem dX5_read_15 : decode cX5_read 15 = .ok (.ireturn, 1) := by decide +kernel
theorem dX5_read_16 : decode cX5_read 16 = .ok (.aload_n 0, 1) := by decide +kernel
theorem dX5_read_17 : decode cX5_read 17 = .ok (.getfield 50, 3) := by decide +kernel
theorem dX5_read_20 : decode cX5_read 20 = .ok (.iload_n 1, 1) := by decide +kernel
theorem dX5_read_21 : decode cX5_read 21 = .ok (.aaload, 1) := by decide +kernel
theorem dX5_read_22 : decode cX5_read 22 = .ok (.astore 4, 2) := by decide +kernel
theorem dX5_read_24 : decode cX5_read 24 = .ok (.aload 4, 2) := by decide +kernel
theorem dX5_read_26 : decode cX5_read 26 = .ok (.invokevirtual 235, 3) := by decide +kernel
theorem dX5_read_29 : decode cX5_read 29 = .ok (.ifCond .eq 10, 3) := by decide +kernel
theorem dX5_read_32 : decode cX5_read 32 = .ok (.aload_n 0, 1) := by decide +kernel
theorem dX5_read_33 : decode cX5_read 33 = .ok (.ldc 239, 2) := by decide +kernel
theorem dX5_read_35 : decode cX5_read 35 = .ok (.invokevirtual 64, 3) := by decide +kernel
theorem dX5_read_38 : decode cX5_read 38 = .ok (.ireturn, 1) := by decide +kernel
theorem dX5_read_39 : decode cX5_read 39 = .ok (.aload_n 0, 1) := by decide +kernel
theorem dX5_read_40 : decode cX5_read 40 = .ok (.getfield 12, 3) := by decide +kernel
theorem dX5_read_43 : decode cX5_read 43 = .ok (.iload_n 2, 1) := by decide +kernel
theorem dX5_read_44 : decode cX5_read 44 = .ok (.invokevirtual 120, 3) := by decide +kernel
theorem dX5_read_47 : decode cX5_read 47 = .ok (.ifCond .eq 14, 3) := by decide +kernel
theorem dX5_read_50 : decode cX5_read 50 = .ok (.aload_n 0, 1) := by decide +kernel
theorem dX5_read_51 : decode cX5_read 51 = .ok (.getfield 12, 3) := by decide +kernel
theorem dX5_read_54 : decode cX5_read 54 = .ok (.iload_n 3, 1) := by decide +kernel
theorem dX5_read_55 : decode cX5_read 55 = .ok (.invokevirtual 180, 3) := by decide +kernel
theorem dX5_read_58 : decode cX5_read 58 = .ok (.ifCond .ne 10, 3) := by decide +kernel
theorem dX5_read_61 : decode cX5_read 61 = .ok (.aload_n 0, 1) := by decide +kernel
theorem dX5_read_62 : decode cX5_read 62 = .ok (.ldc 63, 2) := by decide +kernel
theorem dX5_read_64 : decode cX5_read 64 = .ok (.invokevirtual 64, 3) := by decide +kernel
theorem dX5_read_67 : decode cX5_read 67 = .ok (.ireturn, 1) := by decide +kernel
theorem dX5_read_68 : decode cX5_read 68 = .ok (.aload_n 0, 1) := by decide +kernel
theorem dX5_read_69 : decode cX5_read 69 = .ok (.aload 4, 2) := by decide +kernel
theorem dX5_read_71 : decode cX5_read 71 = .ok (.iload_n 2, 1) := by decide +kernel
theorem dX5_read_72 : decode cX5_read 72 = .ok (.aload_n 0, 1) := by decide +kernel
theorem dX5_read_73 : decode cX5_read 73 = .ok (.getfield 12, 3) := by decide +kernel
theorem dX5_read_76 : decode cX5_read 76 = .ok (.getfield 183, 3) := by decide +kernel
theorem dX5_read_79 : decode cX5_read 79 = .ok (.iload_n 3, 1) := by decide +kernel
theorem dX5_read_80 : decode cX5_read 80 = .ok (.iaload, 1) := by decide +kernel
theorem dX5_read_81 : decode cX5_read 81 = .ok (.invokevirtual 267, 3) := by decide +kernel
theorem dX5_read_84 : decode cX5_read 84 = .ok (.ireturn, 1) := by decide +kernel
set_option maxRecDepth 20000 in
theorem ggX5_judge_X3_toldAt : GoodIn wsX5_judge wsX3_toldAt := goodIn_r _ [9, 10, 35, 36, 37, 38, 39, 40, 41, 42, 43, 44, 45] (by decide +kernel) (by decide +kernel)
set_option maxRecDepth 20000 in
theorem gX5_judge_X3_toldAt : GoodIn wsX5_judge (wsV RX5 133 RX3 yX3_toldAt wsX3_toldAt) := goodIn_app (goodIn_of _ (by decide +kernel)) ggX5_judge_X3_toldAt
set_option maxRecDepth 20000 in
theorem ggX5_judge_X3_lengthsOf : GoodIn wsX5_judge wsX3_lengthsOf := goodIn_r _ [14, 15, 16, 17, 18, 19, 20, 8, 21, 35, 36, 37, 38, 39, 40, 41, 42, 43, 44, 45] (by decide +kernel) (by decide +kernel)
set_option maxRecDepth 20000 in
theorem gX5_judge_X3_lengthsOf : GoodIn wsX5_judge (wsV RX5 93 RX3 yX3_lengthsOf wsX3_lengthsOf) := goodIn_app (goodIn_of _ (by decide +kernel)) ggX5_judge_X3_lengthsOf
set_option maxRecDepth 20000 in
theorem ggX5_judge_X5_isLength : GoodIn wsX5_judge wsX5_isLength := goodIn_r _ [25, 26] (by decide +kernel) (by decide +kernel)
set_option maxRecDepth 20000 in
theorem gX5_judge_X5_isLength : GoodIn wsX5_judge (va_wsS RX5 105 yX5_isLength wsX5_isLength) := goodIn_app (goodIn_of _ (by decide +kernel)) ggX5_judge_X5_isLength
theorem dX5_judge_0 : decode cX5_judge 0 = .ok (.aload_n 0, 1) := by decide +kernel
theorem dX5_judge_1 : decode cX5_judge 1 = .ok (.getfield 12, 3) := by decide +kernel
theorem dX5_judge_4 : decode cX5_judge 4 = .ok (.getfield 123, 3) := by decide +kernel
theorem dX5_judge_7 : decode cX5_judge 7 = .ok (.iload_n 2, 1) := by decide +kernel
theorem dX5_judge_8 : decode cX5_judge 8 = .ok (.iaload, 1) := by decide +kernel
theorem dX5_judge_9 : decode cX5_judge 9 = .ok (.istore 4, 2) := by decide +kernel
theorem dX5_judge_11 : decode cX5_judge 11 = .ok (.iconst 0, 1) := by decide +kernel
theorem dX5_judge_12 : decode cX5_judge 12 = .ok (.istore 5, 2) := by decide +kernel
theorem dX5_judge_14 : decode cX5_judge 14 = .ok (.iconst 0, 1) := by decide +kernel
theorem dX5_judge_15 : decode cX5_judge 15 = .ok (.istore 6, 2) := by decide +kernel
theorem dX5_judge_17 : decode cX5_judge 17 = .ok (.iload 6, 2) := by decide +kernel
theorem dX5_judge_19 : decode cX5_judge 19 = .ok (.aload_n 1, 1) := by decide +kernel
theorem dX5_judge_20 : decode cX5_judge 20 = .ok (.getfield 240, 3) := by decide +kernel
theorem dX5_judge_23 : decode cX5_judge 23 = .ok (.if_icmp .ge 63, 3) := by decide +kernel
theorem dX5_judge_26 : decode cX5_judge 26 = .ok (.aload_n 1, 1) := by decide +kernel
theorem dX5_judge_27 : decode cX5_judge 27 = .ok (.getfield 250, 3) := by decide +kernel
theorem dX5_judge_30 : decode cX5_judge 30 = .ok (.iload 6, 2) := by decide +kernel
theorem dX5_judge_32 : decode cX5_judge 32 = .ok (.laload, 1) := by decide +kernel
theorem dX5_judge_33 : decode cX5_judge 33 = .ok (.lstore 7, 2) := by decide +kernel
theorem dX5_judge_35 : decode cX5_judge 35 = .ok (.iload 6, 2) := by decide +kernel
theorem dX5_judge_37 : decode cX5_judge 37 = .ok (.iload 4, 2) := by decide +kernel
theorem dX5_judge_39 : decode cX5_judge 39 = .ok (.if_icmp .ge 28, 3) := by decide +kernel
theorem dX5_judge_42 : decode cX5_judge 42 = .ok (.aload_n 0, 1) := by decide +kernel
theorem dX5_judge_43 : decode cX5_judge 43 = .ok (.getfield 12, 3) := by decide +kernel
theorem dX5_judge_46 : decode cX5_judge 46 = .ok (.aload_n 0, 1) := by decide +kernel
theorem dX5_judge_47 : decode cX5_judge 47 = .ok (.getfield 12, 3) := by decide +kernel
theorem dX5_judge_50 : decode cX5_judge 50 = .ok (.iload_n 2, 1) := by decide +kernel
theorem dX5_judge_51 : decode cX5_judge 51 = .ok (.iload 6, 2) := by decide +kernel
theorem dX5_judge_53 : decode cX5_judge 53 = .ok (.invokevirtual 133, 3) := by decide +kernel
theorem dX5_judge_56 : decode cX5_judge 56 = .ok (.invokevirtual 93, 3) := by decide +kernel
theorem dX5_judge_59 : decode cX5_judge 59 = .ok (.lload 7, 2) := by decide +kernel
theorem dX5_judge_61 : decode cX5_judge 61 = .ok (.invokestatic 105, 3) := by decide +kernel
theorem dX5_judge_64 : decode cX5_judge 64 = .ok (.ifCond .ne 8, 3) := by decide +kernel
theorem dX5_judge_67 : decode cX5_judge 67 = .ok (.iconst 1, 1) := by decide +kernel
theorem dX5_judge_68 : decode cX5_judge 68 = .ok (.iload 6, 2) := by decide +kernel
theorem dX5_judge_70 : decode cX5_judge 70 = .ok (.iadd, 1) := by decide +kernel
theorem dX5_judge_71 : decode cX5_judge 71 = .ok (.ireturn, 1) := by decide +kernel
theorem dX5_judge_72 : decode cX5_judge 72 = .ok (.iload 5, 2) := by decide +kernel
theorem dX5_judge_74 : decode cX5_judge 74 = .ok (.lload 7, 2) := by decide +kernel
theorem dX5_judge_76 : decode cX5_judge 76 = .ok (.l2i, 1) := by decide +kernel
theorem dX5_judge_77 : decode cX5_judge 77 = .ok (.iadd, 1) := by decide +kernel
theorem dX5_judge_78 : decode cX5_judge 78 = .ok (.istore 5, 2) := by decide +kernel
theorem dX5_judge_80 : decode cX5_judge 80 = .ok (.iinc 6 1, 3) := by decide +kernel
theorem dX5_judge_83 : decode cX5_judge 83 = .ok (.goto (-66), 3) := by decide +kernel
theorem dX5_judge_86 : decode cX5_judge 86 = .ok (.aload_n 1, 1) := by decide +kernel
theorem dX5_judge_87 : decode cX5_judge 87 = .ok (.getfield 240, 3) := by decide +kernel
theorem dX5_judge_90 : decode cX5_judge 90 = .ok (.iload 4, 2) := by decide +kernel
theorem dX5_judge_92 : decode cX5_judge 92 = .ok (.if_icmp .ge 10, 3) := by decide +kernel
theorem dX5_judge_95 : decode cX5_judge 95 = .ok (.iconst 1, 1) := by decide +kernel
theorem dX5_judge_96 : decode cX5_judge 96 = .ok (.aload_n 1, 1) := by decide +kernel
theorem dX5_judge_97 : decode cX5_judge 97 = .ok (.getfield 240, 3) := by decide +kernel
theorem dX5_judge_100 : decode cX5_judge 100 = .ok (.iadd, 1) := by decide +kernel
theorem dX5_judge_101 : decode cX5_judge 101 = .ok (.ireturn, 1) := by decide +kernel
theorem dX5_judge_102 : decode cX5_judge 102 = .ok (.iload 5, 2) := by decide +kernel
theorem dX5_judge_104 : decode cX5_judge 104 = .ok (.iload_n 3, 1) := by decide +kernel
theorem dX5_judge_105 : decode cX5_judge 105 = .ok (.if_icmp .ne 7, 3) := by decide +kernel
theorem dX5_judge_108 : decode cX5_judge 108 = .ok (.iconst 0, 1) := by decide +kernel
theorem dX5_judge_109 : decode cX5_judge 109 = .ok (.goto 5, 3) := by decide +kernel
theorem dX5_judge_112 : decode cX5_judge 112 = .ok (.bipush 41, 2) := by decide +kernel
theorem dX5_judge_114 : decode cX5_judge 114 = .ok (.ireturn, 1) := by decide +kernel
set_option maxRecDepth 20000 in
theorem ggX5_image_X3_become : GoodIn wsX5_image wsX3_become := goodIn_r _ [8, 9, 10, 11, 12, 13, 14, 15, 16, 17, 18, 19, 20, 21, 22, 23, 32, 33, 34, 35, 36, 37, 38, 39, 40, 41, 42] (by decide +kernel) (by decide +kernel)
set_option maxRecDepth 20000 in
theorem gX5_image_X3_become : GoodIn wsX5_image (wsV RX5 271 RX3 yX3_become wsX3_become) := goodIn_app (goodIn_of _ (by decide +kernel)) ggX5_image_X3_become
theorem dX5_image_0 : decode cX5_image 0 = .ok (.aload_n 0, 1) := by decide +kernel
theorem dX5_image_1 : decode cX5_image 1 = .ok (.getfield 16, 3) := by decide +kernel
theorem dX5_image_4 : decode cX5_image 4 = .ok (.aload_n 0, 1) := by decide +kernel
theorem dX5_image_5 : decode cX5_image 5 = .ok (.getfield 12, 3) := by decide +kernel
theorem dX5_image_8 : decode cX5_image 8 = .ok (.invokevirtual 271, 3) := by decide +kernel
theorem dX5_image_11 : decode cX5_image 11 = .ok (.aload_n 0, 1) := by decide +kernel
theorem dX5_image_12 : decode cX5_image 12 = .ok (.iconst 1, 1) := by decide +kernel
theorem dX5_image_13 : decode cX5_image 13 = .ok (.putfield 19, 3) := by decide +kernel
theorem dX5_image_16 : decode cX5_image 16 = .ok (.iconst 1, 1) := by decide +kernel
theorem dX5_image_17 : decode cX5_image 17 = .ok (.ireturn, 1) := by decide +kernel
set_option maxRecDepth 20000 in
theorem ggX5_undo_X5_found : GoodIn wsX5_undo wsX5_found := goodIn_r _ [10, 11, 12, 13, 14, 9, 15, 36, 37, 38, 39, 40, 41, 42, 43] (by decide +kernel) (by decide +kernel)
set_option maxRecDepth 20000 in
theorem gX5_undo_X5_found : GoodIn wsX5_undo (wsV RX5 64 RX5 yX5_found wsX5_found) := goodIn_app (goodIn_of _ (by decide +kernel)) ggX5_undo_X5_found
set_option maxRecDepth 20000 in
theorem ggX5_undo_X3_become : GoodIn wsX5_undo wsX3_become := goodIn_r _ [20, 21, 22, 23, 24, 25, 26, 27, 28, 29, 30, 31, 32, 33, 34, 35, 44, 45, 46, 47, 48, 49, 50, 51, 52, 53, 54] (by decide +kernel) (by decide +kernel)
set_option maxRecDepth 20000 in
theorem gX5_undo_X3_become : GoodIn wsX5_undo (wsV RX5 271 RX3 yX3_become wsX3_become) := goodIn_app (goodIn_of _ (by decide +kernel)) ggX5_undo_X3_become
theorem dX5_undo_0 : decode cX5_undo 0 = .ok (.aload_n 0, 1) := by decide +kernel
theorem dX5_undo_1 : decode cX5_undo 1 = .ok (.getfield 19, 3) := by decide +kernel
theorem dX5_undo_4 : decode cX5_undo 4 = .ok (.ifCond .ne 10, 3) := by decide +kernel
theorem dX5_undo_7 : decode cX5_undo 7 = .ok (.aload_n 0, 1) := by decide +kernel
theorem dX5_undo_8 : decode cX5_undo 8 = .ok (.ldc 129, 2) := by decide +kernel
theorem dX5_undo_10 : decode cX5_undo 10 = .ok (.invokevirtual 64, 3) := by decide +kernel
theorem dX5_undo_13 : decode cX5_undo 13 = .ok (.ireturn, 1) := by decide +kernel
theorem dX5_undo_14 : decode cX5_undo 14 = .ok (.aload_n 0, 1) := by decide +kernel
theorem dX5_undo_15 : decode cX5_undo 15 = .ok (.getfield 12, 3) := by decide +kernel
theorem dX5_undo_18 : decode cX5_undo 18 = .ok (.aload_n 0, 1) := by decide +kernel
theorem dX5_undo_19 : decode cX5_undo 19 = .ok (.getfield 16, 3) := by decide +kernel
theorem dX5_undo_22 : decode cX5_undo 22 = .ok (.invokevirtual 271, 3) := by decide +kernel
theorem dX5_undo_25 : decode cX5_undo 25 = .ok (.aload_n 0, 1) := by decide +kernel
theorem dX5_undo_26 : decode cX5_undo 26 = .ok (.getfield 12, 3) := by decide +kernel
theorem dX5_undo_29 : decode cX5_undo 29 = .ok (.getfield 68, 3) := by decide +kernel
theorem dX5_undo_32 : decode cX5_undo 32 = .ok (.ireturn, 1) := by decide +kernel
theorem dX5_tear_0 : decode cX5_tear 0 = .ok (.aload_n 0, 1) := by decide +kernel
theorem dX5_tear_1 : decode cX5_tear 1 = .ok (.getfield 19, 3) := by decide +kernel
theorem dX5_tear_4 : decode cX5_tear 4 = .ok (.ifCond .eq 7, 3) := by decide +kernel
theorem dX5_tear_7 : decode cX5_tear 7 = .ok (.iconst 1, 1) := by decide +kernel
theorem dX5_tear_8 : decode cX5_tear 8 = .ok (.goto 4, 3) := by decide +kernel
theorem dX5_tear_11 : decode cX5_tear 11 = .ok (.iconst 0, 1) := by decide +kernel
theorem dX5_tear_12 : decode cX5_tear 12 = .ok (.istore_n 1, 1) := by decide +kernel
theorem dX5_tear_13 : decode cX5_tear 13 = .ok (.aload_n 0, 1) := by decide +kernel
theorem dX5_tear_14 : decode cX5_tear 14 = .ok (.iconst 0, 1) := by decide +kernel
theorem dX5_tear_15 : decode cX5_tear 15 = .ok (.putfield 19, 3) := by decide +kernel
theorem dX5_tear_18 : decode cX5_tear 18 = .ok (.iload_n 1, 1) := by decide +kernel
theorem dX5_tear_19 : decode cX5_tear 19 = .ok (.ireturn, 1) := by decide +kernel
set_option maxRecDepth 20000 in
theorem ggX5_count_X5_found : GoodIn wsX5_count wsX5_found := goodIn_r _ [13, 8, 14, 15, 16, 12, 17, 18, 19, 20, 21, 22, 23, 24, 25] (by decide +kernel) (by decide +kernel)
set_option maxRecDepth 20000 in
theorem gX5_count_X5_found : GoodIn wsX5_count (wsV RX5 64 RX5 yX5_found wsX5_found) := goodIn_app (goodIn_of _ (by decide +kernel)) ggX5_count_X5_found
theorem dX5_count_0 : decode cX5_count 0 = .ok (.iload_n 1, 1) := by decide +kernel
theorem dX5_count_1 : decode cX5_count 1 = .ok (.tableswitch 75 0 4 #[35, 43, 51, 59, 67], 35) := by decide +kernel
theorem dX5_count_36 : decode cX5_count 36 = .ok (.aload_n 0, 1) := by decide +kernel
theorem dX5_count_37 : decode cX5_count 37 = .ok (.getfield 12, 3) := by decide +kernel
theorem dX5_count_40 : decode cX5_count 40 = .ok (.getfield 68, 3) := by decide +kernel
theorem dX5_count_43 : decode cX5_count 43 = .ok (.ireturn, 1) := by decide +kernel
theorem dX5_count_44 : decode cX5_count 44 = .ok (.aload_n 0, 1) := by decide +kernel
theorem dX5_count_45 : decode cX5_count 45 = .ok (.getfield 12, 3) := by decide +kernel
theorem dX5_count_48 : decode cX5_count 48 = .ok (.getfield 113, 3) := by decide +kernel
theorem dX5_count_51 : decode cX5_count 51 = .ok (.ireturn, 1) := by decide +kernel
theorem dX5_count_52 : decode cX5_count 52 = .ok (.aload_n 0, 1) := by decide +kernel
theorem dX5_count_53 : decode cX5_count 53 = .ok (.getfield 12, 3) := by decide +kernel
theorem dX5_count_56 : decode cX5_count 56 = .ok (.getfield 174, 3) := by decide +kernel
theorem dX5_count_59 : decode cX5_count 59 = .ok (.ireturn, 1) := by decide +kernel
theorem dX5_count_60 : decode cX5_count 60 = .ok (.aload_n 0, 1) := by decide +kernel
theorem dX5_count_61 : decode cX5_count 61 = .ok (.getfield 35, 3) := by decide +kernel
theorem dX5_count_64 : decode cX5_count 64 = .ok (.getfield 215, 3) := by decide +kernel
theorem dX5_count_67 : decode cX5_count 67 = .ok (.ireturn, 1) := by decide +kernel
theorem dX5_count_68 : decode cX5_count 68 = .ok (.aload_n 0, 1) := by decide +kernel
theorem dX5_count_69 : decode cX5_count 69 = .ok (.getfield 12, 3) := by decide +kernel
theorem dX5_count_72 : decode cX5_count 72 = .ok (.getfield 189, 3) := by decide +kernel
theorem dX5_count_75 : decode cX5_count 75 = .ok (.ireturn, 1) := by decide +kernel
theorem dX5_count_76 : decode cX5_count 76 = .ok (.aload_n 0, 1) := by decide +kernel
theorem dX5_count_77 : decode cX5_count 77 = .ok (.ldc 63, 2) := by decide +kernel
theorem dX5_count_79 : decode cX5_count 79 = .ok (.invokevirtual 64, 3) := by decide +kernel
theorem dX5_count_82 : decode cX5_count 82 = .ok (.ireturn, 1) := by decide +kernel
set_option maxRecDepth 20000 in
theorem ggX5_status_X5_isIn : GoodIn wsX5_status wsX5_isIn := goodIn_r _ [6] (by decide +kernel) (by decide +kernel)
set_option maxRecDepth 20000 in
theorem gX5_status_X5_isIn : GoodIn wsX5_status (va_wsS RX5 59 yX5_isIn wsX5_isIn) := goodIn_app (goodIn_of _ (by decide +kernel)) ggX5_status_X5_isIn
set_option maxRecDepth 20000 in
theorem ggX5_status_X5_found : GoodIn wsX5_status wsX5_found := goodIn_r _ [10, 1, 2, 3, 4, 5, 6, 11, 12, 13, 14, 15, 16, 17, 18] (by decide +kernel) (by decide +kernel)
set_option maxRecDepth 20000 in
theorem gX5_status_X5_found : GoodIn wsX5_status (wsV RX5 64 RX5 yX5_found wsX5_found) := goodIn_app (goodIn_of _ (by decide +kernel)) ggX5_status_X5_found
theorem dX5_status_0 : decode cX5_status 0 = .ok (.iload_n 1, 1) := by decide +kernel
theorem dX5_status_1 : decode cX5_status 1 = .ok (.iconst (-1), 1) := by decide +kernel
theorem dX5_status_2 : decode cX5_status 2 = .ok (.bipush 6, 2) := by decide +kernel
theorem dX5_status_4 : decode cX5_status 4 = .ok (.invokestatic 59, 3) := by decide +kernel
theorem dX5_status_7 : decode cX5_status 7 = .ok (.ifCond .ne 10, 3) := by decide +kernel
theorem dX5_status_10 : decode cX5_status 10 = .ok (.aload_n 0, 1) := by decide +kernel
theorem dX5_status_11 : decode cX5_status 11 = .ok (.ldc 63, 2) := by decide +kernel
theorem dX5_status_13 : decode cX5_status 13 = .ok (.invokevirtual 64, 3) := by decide +kernel
theorem dX5_status_16 : decode cX5_status 16 = .ok (.ireturn, 1) := by decide +kernel
theorem dX5_status_17 : decode cX5_status 17 = .ok (.iload_n 1, 1) := by decide +kernel
theorem dX5_status_18 : decode cX5_status 18 = .ok (.ifCond .lt 10, 3) := by decide +kernel
theorem dX5_status_21 : decode cX5_status 21 = .ok (.aload_n 0, 1) := by decide +kernel
theorem dX5_status_22 : decode cX5_status 22 = .ok (.getfield 55, 3) := by decide +kernel
theorem dX5_status_25 : decode cX5_status 25 = .ok (.iload_n 1, 1) := by decide +kernel
theorem dX5_status_26 : decode cX5_status 26 = .ok (.iaload, 1) := by decide +kernel
theorem dX5_status_27 : decode cX5_status 27 = .ok (.ireturn, 1) := by decide +kernel
theorem dX5_status_28 : decode cX5_status 28 = .ok (.iconst 0, 1) := by decide +kernel
theorem dX5_status_29 : decode cX5_status 29 = .ok (.istore_n 2, 1) := by decide +kernel
theorem dX5_status_30 : decode cX5_status 30 = .ok (.iconst 0, 1) := by decide +kernel
theorem dX5_status_31 : decode cX5_status 31 = .ok (.istore_n 3, 1) := by decide +kernel
theorem dX5_status_32 : decode cX5_status 32 = .ok (.iload_n 3, 1) := by decide +kernel
theorem dX5_status_33 : decode cX5_status 33 = .ok (.bipush 7, 2) := by decide +kernel
theorem dX5_status_35 : decode cX5_status 35 = .ok (.if_icmp .ge 18, 3) := by decide +kernel
theorem dX5_status_38 : decode cX5_status 38 = .ok (.iload_n 2, 1) := by decide +kernel
theorem dX5_status_39 : decode cX5_status 39 = .ok (.aload_n 0, 1) := by decide +kernel
theorem dX5_status_40 : decode cX5_status 40 = .ok (.getfield 55, 3) := by decide +kernel
theorem dX5_status_43 : decode cX5_status 43 = .ok (.iload_n 3, 1) := by decide +kernel
theorem dX5_status_44 : decode cX5_status 44 = .ok (.iaload, 1) := by decide +kernel
theorem dX5_status_45 : decode cX5_status 45 = .ok (.iadd, 1) := by decide +kernel
theorem dX5_status_46 : decode cX5_status 46 = .ok (.istore_n 2, 1) := by decide +kernel
theorem dX5_status_47 : decode cX5_status 47 = .ok (.iinc 3 1, 3) := by decide +kernel
theorem dX5_status_50 : decode cX5_status 50 = .ok (.goto (-18), 3) := by decide +kernel
theorem dX5_status_53 : decode cX5_status 53 = .ok (.iload_n 2, 1) := by decide +kernel
theorem dX5_status_54 : decode cX5_status 54 = .ok (.ireturn, 1) := by decide +kernel
set_option maxRecDepth 20000 in
theorem ggX5_found_X5_isIn : GoodIn wsX5_found wsX5_isIn := goodIn_r _ [6] (by decide +kernel) (by decide +kernel)
set_option maxRecDepth 20000 in
theorem gX5_found_X5_isIn : GoodIn wsX5_found (va_wsS RX5 59 yX5_isIn wsX5_isIn) := goodIn_app (goodIn_of _ (by decide +kernel)) ggX5_found_X5_isIn
theorem dX5_found_0 : decode cX5_found 0 = .ok (.ldc 63, 2) := by decide +kernel
theorem dX5_found_2 : decode cX5_found 2 = .ok (.iload_n 1, 1) := by decide +kernel
theorem dX5_found_3 : decode cX5_found 3 = .ok (.isub, 1) := by decide +kernel
theorem dX5_found_4 : decode cX5_found 4 = .ok (.istore_n 2, 1) := by decide +kernel
theorem dX5_found_5 : decode cX5_found 5 = .ok (.iload_n 2, 1) := by decide +kernel
theorem dX5_found_6 : decode cX5_found 6 = .ok (.iconst 0, 1) := by decide +kernel
theorem dX5_found_7 : decode cX5_found 7 = .ok (.bipush 6, 2) := by decide +kernel
theorem dX5_found_9 : decode cX5_found 9 = .ok (.invokestatic 59, 3) := by decide +kernel
theorem dX5_found_12 : decode cX5_found 12 = .ok (.ifCond .eq 13, 3) := by decide +kernel
theorem dX5_found_15 : decode cX5_found 15 = .ok (.aload_n 0, 1) := by decide +kernel
theorem dX5_found_16 : decode cX5_found 16 = .ok (.getfield 55, 3) := by decide +kernel
theorem dX5_found_19 : decode cX5_found 19 = .ok (.iload_n 2, 1) := by decide +kernel
theorem dX5_found_20 : decode cX5_found 20 = .ok (.dup2, 1) := by decide +kernel
theorem dX5_found_21 : decode cX5_found 21 = .ok (.iaload, 1) := by decide +kernel
theorem dX5_found_22 : decode cX5_found 22 = .ok (.iconst 1, 1) := by decide +kernel
theorem dX5_found_23 : decode cX5_found 23 = .ok (.iadd, 1) := by decide +kernel
theorem dX5_found_24 : decode cX5_found 24 = .ok (.iastore, 1) := by decide +kernel
theorem dX5_found_25 : decode cX5_found 25 = .ok (.iload_n 1, 1) := by decide +kernel
theorem dX5_found_26 : decode cX5_found 26 = .ok (.ireturn, 1) := by decide +kernel
theorem dX5_isIn_0 : decode cX5_isIn 0 = .ok (.iload_n 0, 1) := by decide +kernel
theorem dX5_isIn_1 : decode cX5_isIn 1 = .ok (.iload_n 1, 1) := by decide +kernel
theorem dX5_isIn_2 : decode cX5_isIn 2 = .ok (.if_icmp .lt 12, 3) := by decide +kernel
theorem dX5_isIn_5 : decode cX5_isIn 5 = .ok (.iload_n 0, 1) := by decide +kernel
theorem dX5_isIn_6 : decode cX5_isIn 6 = .ok (.iload_n 2, 1) := by decide +kernel
theorem dX5_isIn_7 : decode cX5_isIn 7 = .ok (.if_icmp .gt 7, 3) := by decide +kernel
theorem dX5_isIn_10 : decode cX5_isIn 10 = .ok (.iconst 1, 1) := by decide +kernel
theorem dX5_isIn_11 : decode cX5_isIn 11 = .ok (.goto 4, 3) := by decide +kernel
theorem dX5_isIn_14 : decode cX5_isIn 14 = .ok (.iconst 0, 1) := by decide +kernel
theorem dX5_isIn_15 : decode cX5_isIn 15 = .ok (.ireturn, 1) := by decide +kernel
theorem dX5_swap_0 : decode cX5_swap 0 = .ok (.aload_n 0, 1) := by decide +kernel
theorem dX5_swap_1 : decode cX5_swap 1 = .ok (.iload_n 1, 1) := by decide +kernel
theorem dX5_swap_2 : decode cX5_swap 2 = .ok (.iaload, 1) := by decide +kernel
theorem dX5_swap_3 : decode cX5_swap 3 = .ok (.istore_n 3, 1) := by decide +kernel
theorem dX5_swap_4 : decode cX5_swap 4 = .ok (.aload_n 0, 1) := by decide +kernel
theorem dX5_swap_5 : decode cX5_swap 5 = .ok (.iload_n 1, 1) := by decide +kernel
theorem dX5_swap_6 : decode cX5_swap 6 = .ok (.iload_n 2, 1) := by decide +kernel
theorem dX5_swap_7 : decode cX5_swap 7 = .ok (.iastore, 1) := by decide +kernel
theorem dX5_swap_8 : decode cX5_swap 8 = .ok (.iload_n 3, 1) := by decide +kernel
theorem dX5_swap_9 : decode cX5_swap 9 = .ok (.ireturn, 1) := by decide +kernel
theorem dX5_isLength_0 : decode cX5_isLength 0 = .ok (.lload_n 1, 1) := by decide +kernel
theorem dX5_isLength_1 : decode cX5_isLength 1 = .ok (.lconst 0, 1) := by decide +kernel
theorem dX5_isLength_2 : decode cX5_isLength 2 = .ok (.lcmp, 1) := by decide +kernel
theorem dX5_isLength_3 : decode cX5_isLength 3 = .ok (.ifCond .lt 25, 3) := by decide +kernel
theorem dX5_isLength_6 : decode cX5_isLength 6 = .ok (.lload_n 1, 1) := by decide +kernel
theorem dX5_isLength_7 : decode cX5_isLength 7 = .ok (.ldc2_w 274, 3) := by decide +kernel
theorem dX5_isLength_10 : decode cX5_isLength 10 = .ok (.lcmp, 1) := by decide +kernel
theorem dX5_isLength_11 : decode cX5_isLength 11 = .ok (.ifCond .gt 17, 3) := by decide +kernel
theorem dX5_isLength_14 : decode cX5_isLength 14 = .ok (.iload_n 0, 1) := by decide +kernel
theorem dX5_isLength_15 : decode cX5_isLength 15 = .ok (.lload_n 1, 1) := by decide +kernel
theorem dX5_isLength_16 : decode cX5_isLength 16 = .ok (.l2i, 1) := by decide +kernel
theorem dX5_isLength_17 : decode cX5_isLength 17 = .ok (.ishr, 1) := by decide +kernel
theorem dX5_isLength_18 : decode cX5_isLength 18 = .ok (.iconst 1, 1) := by decide +kernel
theorem dX5_isLength_19 : decode cX5_isLength 19 = .ok (.iand, 1) := by decide +kernel
theorem dX5_isLength_20 : decode cX5_isLength 20 = .ok (.iconst 1, 1) := by decide +kernel
theorem dX5_isLength_21 : decode cX5_isLength 21 = .ok (.if_icmp .ne 7, 3) := by decide +kernel
theorem dX5_isLength_24 : decode cX5_isLength 24 = .ok (.iconst 1, 1) := by decide +kernel
theorem dX5_isLength_25 : decode cX5_isLength 25 = .ok (.goto 4, 3) := by decide +kernel
theorem dX5_isLength_28 : decode cX5_isLength 28 = .ok (.iconst 0, 1) := by decide +kernel
theorem dX5_isLength_29 : decode cX5_isLength 29 = .ok (.ireturn, 1) := by decide +kernel
theorem dX5_isUnder_0 : decode cX5_isUnder 0 = .ok (.iload_n 0, 1) := by decide +kernel
theorem dX5_isUnder_1 : decode cX5_isUnder 1 = .ok (.istore_n 2, 1) := by decide +kernel
theorem dX5_isUnder_2 : decode cX5_isUnder 2 = .ok (.iconst 0, 1) := by decide +kernel
theorem dX5_isUnder_3 : decode cX5_isUnder 3 = .ok (.istore_n 3, 1) := by decide +kernel
theorem dX5_isUnder_4 : decode cX5_isUnder 4 = .ok (.iload_n 3, 1) := by decide +kernel
theorem dX5_isUnder_5 : decode cX5_isUnder 5 = .ok (.bipush 6, 2) := by decide +kernel
theorem dX5_isUnder_7 : decode cX5_isUnder 7 = .ok (.if_icmp .ge 26, 3) := by decide +kernel
theorem dX5_isUnder_10 : decode cX5_isUnder 10 = .ok (.iload_n 2, 1) := by decide +kernel
theorem dX5_isUnder_11 : decode cX5_isUnder 11 = .ok (.ifCond .lt 22, 3) := by decide +kernel
theorem dX5_isUnder_14 : decode cX5_isUnder 14 = .ok (.iload_n 2, 1) := by decide +kernel
theorem dX5_isUnder_15 : decode cX5_isUnder 15 = .ok (.iload_n 1, 1) := by decide +kernel
theorem dX5_isUnder_16 : decode cX5_isUnder 16 = .ok (.if_icmp .ne 5, 3) := by decide +kernel
theorem dX5_isUnder_19 : decode cX5_isUnder 19 = .ok (.iconst 1, 1) := by decide +kernel
theorem dX5_isUnder_20 : decode cX5_isUnder 20 = .ok (.ireturn, 1) := by decide +kernel
theorem dX5_isUnder_21 : decode cX5_isUnder 21 = .ok (.getstatic 276, 3) := by decide +kernel
theorem dX5_isUnder_24 : decode cX5_isUnder 24 = .ok (.iload_n 2, 1) := by decide +kernel
theorem dX5_isUnder_25 : decode cX5_isUnder 25 = .ok (.iaload, 1) := by decide +kernel
theorem dX5_isUnder_26 : decode cX5_isUnder 26 = .ok (.istore_n 2, 1) := by decide +kernel
theorem dX5_isUnder_27 : decode cX5_isUnder 27 = .ok (.iinc 3 1, 3) := by decide +kernel
theorem dX5_isUnder_30 : decode cX5_isUnder 30 = .ok (.goto (-26), 3) := by decide +kernel
theorem dX5_isUnder_33 : decode cX5_isUnder 33 = .ok (.iconst 0, 1) := by decide +kernel
theorem dX5_isUnder_34 : decode cX5_isUnder 34 = .ok (.ireturn, 1) := by decide +kernel
theorem dX6_init_0 : decode cX6_init 0 = .ok (.aload_n 0, 1) := by decide +kernel
theorem dX6_init_1 : decode cX6_init 1 = .ok (.invokespecial 1, 3) := by decide +kernel
theorem dX6_init_4 : decode cX6_init 4 = .ok (.aload_n 0, 1) := by decide +kernel
theorem dX6_init_5 : decode cX6_init 5 = .ok (.sipush 166, 3) := by decide +kernel
theorem dX6_init_8 : decode cX6_init 8 = .ok (.newarray .int, 2) := by decide +kernel
theorem dX6_init_10 : decode cX6_init 10 = .ok (.putfield 9, 3) := by decide +kernel
theorem dX6_init_13 : decode cX6_init 13 = .ok (.aload_n 0, 1) := by decide +kernel
theorem dX6_init_14 : decode cX6_init 14 = .ok (.sipush 166, 3) := by decide +kernel
theorem dX6_init_17 : decode cX6_init 17 = .ok (.newarray .int, 2) := by decide +kernel
theorem dX6_init_19 : decode cX6_init 19 = .ok (.putfield 13, 3) := by decide +kernel
theorem dX6_init_22 : decode cX6_init 22 = .ok (.aload_n 0, 1) := by decide +kernel
theorem dX6_init_23 : decode cX6_init 23 = .ok (.sipush 166, 3) := by decide +kernel
theorem dX6_init_26 : decode cX6_init 26 = .ok (.newarray .int, 2) := by decide +kernel
theorem dX6_init_28 : decode cX6_init 28 = .ok (.putfield 16, 3) := by decide +kernel
theorem dX6_init_31 : decode cX6_init 31 = .ok (.aload_n 0, 1) := by decide +kernel
theorem dX6_init_32 : decode cX6_init 32 = .ok (.bipush 7, 2) := by decide +kernel
theorem dX6_init_34 : decode cX6_init 34 = .ok (.newarray .int, 2) := by decide +kernel
theorem dX6_init_36 : decode cX6_init 36 = .ok (.putfield 19, 3) := by decide +kernel
theorem dX6_init_39 : decode cX6_init 39 = .ok (.aload_n 0, 1) := by decide +kernel
theorem dX6_init_40 : decode cX6_init 40 = .ok (.bipush 121, 2) := by decide +kernel
theorem dX6_init_42 : decode cX6_init 42 = .ok (.newarray .long, 2) := by decide +kernel
theorem dX6_init_44 : decode cX6_init 44 = .ok (.putfield 22, 3) := by decide +kernel
theorem dX6_init_47 : decode cX6_init 47 = .ok (.aload_n 0, 1) := by decide +kernel
theorem dX6_init_48 : decode cX6_init 48 = .ok (.bipush 121, 2) := by decide +kernel
theorem dX6_init_50 : decode cX6_init 50 = .ok (.newarray .long, 2) := by decide +kernel
theorem dX6_init_52 : decode cX6_init 52 = .ok (.putfield 26, 3) := by decide +kernel
theorem dX6_init_55 : decode cX6_init 55 = .ok (.aload_n 0, 1) := by decide +kernel
theorem dX6_init_56 : decode cX6_init 56 = .ok (.sipush 1331, 3) := by decide +kernel
theorem dX6_init_59 : decode cX6_init 59 = .ok (.newarray .int, 2) := by decide +kernel
theorem dX6_init_61 : decode cX6_init 61 = .ok (.putfield 29, 3) := by decide +kernel
theorem dX6_init_64 : decode cX6_init 64 = .ok (.aload_n 0, 1) := by decide +kernel
theorem dX6_init_65 : decode cX6_init 65 = .ok (.bipush 10, 2) := by decide +kernel
theorem dX6_init_67 : decode cX6_init 67 = .ok (.newarray .int, 2) := by decide +kernel
theorem dX6_init_69 : decode cX6_init 69 = .ok (.putfield 32, 3) := by decide +kernel
theorem dX6_init_72 : decode cX6_init 72 = .ok (.aload_n 0, 1) := by decide +kernel
theorem dX6_init_73 : decode cX6_init 73 = .ok (.bipush 121, 2) := by decide +kernel
theorem dX6_init_75 : decode cX6_init 75 = .ok (.newarray .int, 2) := by decide +kernel
theorem dX6_init_77 : decode cX6_init 77 = .ok (.putfield 35, 3) := by decide +kernel
theorem dX6_init_80 : decode cX6_init 80 = .ok (.aload_n 0, 1) := by decide +kernel
theorem dX6_init_81 : decode cX6_init 81 = .ok (.bipush 121, 2) := by decide +kernel
theorem dX6_init_83 : decode cX6_init 83 = .ok (.newarray .int, 2) := by decide +kernel
theorem dX6_init_85 : decode cX6_init 85 = .ok (.putfield 38, 3) := by decide +kernel
theorem dX6_init_88 : decode cX6_init 88 = .ok (.aload_n 0, 1) := by decide +kernel
theorem dX6_init_89 : decode cX6_init 89 = .ok (.bipush 120, 2) := by decide +kernel
theorem dX6_init_91 : decode cX6_init 91 = .ok (.newarray .int, 2) := by decide +kernel
theorem dX6_init_93 : decode cX6_init 93 = .ok (.putfield 41, 3) := by decide +kernel
theorem dX6_init_96 : decode cX6_init 96 = .ok (.aload_n 0, 1) := by decide +kernel
theorem dX6_init_97 : decode cX6_init 97 = .ok (.iconst 4, 1) := by decide +kernel
theorem dX6_init_98 : decode cX6_init 98 = .ok (.newarray .int, 2) := by decide +kernel
theorem dX6_init_100 : decode cX6_init 100 = .ok (.putfield 44, 3) := by decide +kernel
theorem dX6_init_103 : decode cX6_init 103 = .ok (.aload_n 0, 1) := by decide +kernel
theorem dX6_init_104 : decode cX6_init 104 = .ok (.iconst 4, 1) := by decide +kernel
theorem dX6_init_105 : decode cX6_init 105 = .ok (.newarray .int, 2) := by decide +kernel
theorem dX6_init_107 : decode cX6_init 107 = .ok (.putfield 47, 3) := by decide +kernel
theorem dX6_init_110 : decode cX6_init 110 = .ok (.aload_n 0, 1) := by decide +kernel
theorem dX6_init_111 : decode cX6_init 111 = .ok (.sipush 160, 3) := by decide +kernel
theorem dX6_init_114 : decode cX6_init 114 = .ok (.newarray .long, 2) := by decide +kernel
theorem dX6_init_116 : decode cX6_init 116 = .ok (.putfield 50, 3) := by decide +kernel
theorem dX6_init_119 : decode cX6_init 119 = .ok (.aload_n 0, 1) := by decide +kernel
theorem dX6_init_120 : decode cX6_init 120 = .ok (.bipush 40, 2) := by decide +kernel
theorem dX6_init_122 : decode cX6_init 122 = .ok (.newarray .long, 2) := by decide +kernel
theorem dX6_init_124 : decode cX6_init 124 = .ok (.putfield 53, 3) := by decide +kernel
theorem dX6_init_127 : decode cX6_init 127 = .ok (.return_, 1) := by decide +kernel
theorem dX6_in_0 : decode cX6_in 0 = .ok (.iload_n 0, 1) := by decide +kernel
theorem dX6_in_1 : decode cX6_in 1 = .ok (.iload_n 1, 1) := by decide +kernel
theorem dX6_in_2 : decode cX6_in 2 = .ok (.if_icmp .lt 12, 3) := by decide +kernel
theorem dX6_in_5 : decode cX6_in 5 = .ok (.iload_n 0, 1) := by decide +kernel
theorem dX6_in_6 : decode cX6_in 6 = .ok (.iload_n 2, 1) := by decide +kernel
theorem dX6_in_7 : decode cX6_in 7 = .ok (.if_icmp .gt 7, 3) := by decide +kernel
theorem dX6_in_10 : decode cX6_in 10 = .ok (.iconst 1, 1) := by decide +kernel
theorem dX6_in_11 : decode cX6_in 11 = .ok (.goto 4, 3) := by decide +kernel
theorem dX6_in_14 : decode cX6_in 14 = .ok (.iconst 0, 1) := by decide +kernel
theorem dX6_in_15 : decode cX6_in 15 = .ok (.ireturn, 1) := by decide +kernel
theorem dX6_no_0 : decode cX6_no 0 = .ok (.aload_n 0, 1) := by decide +kernel
theorem dX6_no_1 : decode cX6_no 1 = .ok (.getfield 19, 3) := by decide +kernel
theorem dX6_no_4 : decode cX6_no 4 = .ok (.iload_n 1, 1) := by decide +kernel
theorem dX6_no_5 : decode cX6_no 5 = .ok (.dup2, 1) := by decide +kernel
theorem dX6_no_6 : decode cX6_no 6 = .ok (.iaload, 1) := by decide +kernel
theorem dX6_no_7 : decode cX6_no 7 = .ok (.iconst 1, 1) := by decide +kernel
theorem dX6_no_8 : decode cX6_no 8 = .ok (.iadd, 1) := by decide +kernel
theorem dX6_no_9 : decode cX6_no 9 = .ok (.iastore, 1) := by decide +kernel
theorem dX6_no_10 : decode cX6_no 10 = .ok (.ldc 56, 2) := by decide +kernel
theorem dX6_no_12 : decode cX6_no 12 = .ok (.iload_n 1, 1) := by decide +kernel
theorem dX6_no_13 : decode cX6_no 13 = .ok (.isub, 1) := by decide +kernel
theorem dX6_no_14 : decode cX6_no 14 = .ok (.ireturn, 1) := by decide +kernel
theorem dX6_lay_0 : decode cX6_lay 0 = .ok (.iconst 0, 1) := by decide +kernel
theorem dX6_lay_1 : decode cX6_lay 1 = .ok (.istore_n 2, 1) := by decide +kernel
theorem dX6_lay_2 : decode cX6_lay 2 = .ok (.iload_n 2, 1) := by decide +kernel
theorem dX6_lay_3 : decode cX6_lay 3 = .ok (.sipush 166, 3) := by decide +kernel
theorem dX6_lay_6 : decode cX6_lay 6 = .ok (.if_icmp .ge 15, 3) := by decide +kernel
theorem dX6_lay_9 : decode cX6_lay 9 = .ok (.aload_n 1, 1) := by decide +kernel
theorem dX6_lay_10 : decode cX6_lay 10 = .ok (.iload_n 2, 1) := by decide +kernel
theorem dX6_lay_11 : decode cX6_lay 11 = .ok (.aload_n 0, 1) := by decide +kernel
theorem dX6_lay_12 : decode cX6_lay 12 = .ok (.iload_n 2, 1) := by decide +kernel
theorem dX6_lay_13 : decode cX6_lay 13 = .ok (.iaload, 1) := by decide +kernel
theorem dX6_lay_14 : decode cX6_lay 14 = .ok (.iastore, 1) := by decide +kernel
theorem dX6_lay_15 : decode cX6_lay 15 = .ok (.iinc 2 1, 3) := by decide +kernel
theorem dX6_lay_18 : decode cX6_lay 18 = .ok (.goto (-16), 3) := by decide +kernel
theorem dX6_lay_21 : decode cX6_lay 21 = .ok (.return_, 1) := by decide +kernel
theorem dX6_puts_0 : decode cX6_puts 0 = .ok (.aload_n 0, 1) := by decide +kernel
theorem dX6_puts_1 : decode cX6_puts 1 = .ok (.getfield 9, 3) := by decide +kernel
theorem dX6_puts_4 : decode cX6_puts 4 = .ok (.iload_n 1, 1) := by decide +kernel
theorem dX6_puts_5 : decode cX6_puts 5 = .ok (.iaload, 1) := by decide +kernel
theorem dX6_puts_6 : decode cX6_puts 6 = .ok (.istore_n 3, 1) := by decide +kernel
theorem dX6_puts_7 : decode cX6_puts 7 = .ok (.aload_n 0, 1) := by decide +kernel
theorem dX6_puts_8 : decode cX6_puts 8 = .ok (.getfield 9, 3) := by decide +kernel
theorem dX6_puts_11 : decode cX6_puts 11 = .ok (.iload_n 1, 1) := by decide +kernel
theorem dX6_puts_12 : decode cX6_puts 12 = .ok (.iload_n 2, 1) := by decide +kernel
theorem dX6_puts_13 : decode cX6_puts 13 = .ok (.iastore, 1) := by decide +kernel
theorem dX6_puts_14 : decode cX6_puts 14 = .ok (.iload_n 3, 1) := by decide +kernel
theorem dX6_puts_15 : decode cX6_puts 15 = .ok (.ireturn, 1) := by decide +kernel
set_option maxRecDepth 20000 in
theorem ggX6_isPart_X6_in : GoodIn wsX6_isPart wsX6_in := goodIn_r _ [5] (by decide +kernel) (by decide +kernel)
set_option maxRecDepth 20000 in
theorem gX6_isPart_X6_in : GoodIn wsX6_isPart (va_wsS RX6 57 yX6_in wsX6_in) := goodIn_app (goodIn_of _ (by decide +kernel)) ggX6_isPart_X6_in
theorem dX6_isPart_0 : decode cX6_isPart 0 = .ok (.iload_n 1, 1) := by decide +kernel
theorem dX6_isPart_1 : decode cX6_isPart 1 = .ok (.iconst 0, 1) := by decide +kernel
theorem dX6_isPart_2 : decode cX6_isPart 2 = .ok (.aload_n 0, 1) := by decide +kernel
theorem dX6_isPart_3 : decode cX6_isPart 3 = .ok (.getfield 9, 3) := by decide +kernel
theorem dX6_isPart_6 : decode cX6_isPart 6 = .ok (.iconst 1, 1) := by decide +kernel
theorem dX6_isPart_7 : decode cX6_isPart 7 = .ok (.iaload, 1) := by decide +kernel
theorem dX6_isPart_8 : decode cX6_isPart 8 = .ok (.iconst 1, 1) := by decide +kernel
theorem dX6_isPart_9 : decode cX6_isPart 9 = .ok (.isub, 1) := by decide +kernel
theorem dX6_isPart_10 : decode cX6_isPart 10 = .ok (.invokestatic 57, 3) := by decide +kernel
