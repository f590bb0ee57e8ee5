set_option maxRecDepth 20000 in
theorem ggX6_best_X6_says : GoodIn wsX6_best wsX6_says := goodIn_r _ [23, 24, 1, 25, 26, 27, 5, 28, 29, 30, 31, 32, 33, 7, 34, 35, 36, 37, 38, 39, 40, 41, 42, 43, 44, 45, 46, 47, 48, 49, 50, 51, 52, 53, 54, 55, 56, 57, 58, 59, 60, 61, 62, 63, 64, 65, 66, 67, 68, 69, 70, 71, 72, 73, 74, 75, 76] (by decide +kernel) (by decide +kernel)
set_option maxRecDepth 20000 in
theorem gX6_best_X6_says : GoodIn wsX6_best (wsV RX6 132 RX6 yX6_says wsX6_says) := goodIn_app (goodIn_of _ (by decide +kernel)) ggX6_best_X6_says
set_option maxRecDepth 20000 in
theorem ggX6_best_X6_long_ : GoodIn wsX6_best wsX6_long_ := goodIn_r _ [33, 7, 57, 58, 59, 60, 61, 62, 63, 64, 65, 66, 67, 68, 69, 70, 71, 72, 73, 74, 75, 76] (by decide +kernel) (by decide +kernel)
set_option maxRecDepth 20000 in
theorem gX6_best_X6_long_ : GoodIn wsX6_best (wsV RX6 105 RX6 yX6_long_ wsX6_long_) := goodIn_app (goodIn_of _ (by decide +kernel)) ggX6_best_X6_long_
set_option maxRecDepth 20000 in
theorem ggX6_best_X6_worthAt : GoodIn wsX6_best wsX6_worthAt := goodIn_r _ [41, 24, 29, 57, 58, 59, 60, 61, 62, 63, 64, 65, 66, 67, 68, 69, 70, 71, 72, 73, 74, 75, 76] (by decide +kernel) (by decide +kernel)
set_option maxRecDepth 20000 in
theorem gX6_best_X6_worthAt : GoodIn wsX6_best (wsV RX6 125 RX6 yX6_worthAt wsX6_worthAt) := goodIn_app (goodIn_of _ (by decide +kernel)) ggX6_best_X6_worthAt
theorem dX6_best_0 : decode cX6_best 0 = .ok (.aload_n 0, 1) := by decide +kernel
theorem dX6_best_1 : decode cX6_best 1 = .ok (.iload_n 1, 1) := by decide +kernel
theorem dX6_best_2 : decode cX6_best 2 = .ok (.invokevirtual 102, 3) := by decide +kernel
theorem dX6_best_5 : decode cX6_best 5 = .ok (.ifCond .eq 20, 3) := by decide +kernel
theorem dX6_best_8 : decode cX6_best 8 = .ok (.iload_n 2, 1) := by decide +kernel
theorem dX6_best_9 : decode cX6_best 9 = .ok (.invokestatic 118, 3) := by decide +kernel
theorem dX6_best_12 : decode cX6_best 12 = .ok (.ifCond .eq 13, 3) := by decide +kernel
theorem dX6_best_15 : decode cX6_best 15 = .ok (.iload_n 3, 1) := by decide +kernel
theorem dX6_best_16 : decode cX6_best 16 = .ok (.iconst (-1), 1) := by decide +kernel
theorem dX6_best_17 : decode cX6_best 17 = .ok (.bipush 9, 2) := by decide +kernel
theorem dX6_best_19 : decode cX6_best 19 = .ok (.invokestatic 57, 3) := by decide +kernel
theorem dX6_best_22 : decode cX6_best 22 = .ok (.ifCond .ne 9, 3) := by decide +kernel
theorem dX6_best_25 : decode cX6_best 25 = .ok (.aload_n 0, 1) := by decide +kernel
theorem dX6_best_26 : decode cX6_best 26 = .ok (.iconst 0, 1) := by decide +kernel
theorem dX6_best_27 : decode cX6_best 27 = .ok (.invokevirtual 68, 3) := by decide +kernel
theorem dX6_best_30 : decode cX6_best 30 = .ok (.ireturn, 1) := by decide +kernel
theorem dX6_best_31 : decode cX6_best 31 = .ok (.aload_n 0, 1) := by decide +kernel
theorem dX6_best_32 : decode cX6_best 32 = .ok (.iload_n 1, 1) := by decide +kernel
theorem dX6_best_33 : decode cX6_best 33 = .ok (.iload_n 2, 1) := by decide +kernel
theorem dX6_best_34 : decode cX6_best 34 = .ok (.invokevirtual 132, 3) := by decide +kernel
theorem dX6_best_37 : decode cX6_best 37 = .ok (.ifCond .eq 12, 3) := by decide +kernel
theorem dX6_best_40 : decode cX6_best 40 = .ok (.iload_n 3, 1) := by decide +kernel
theorem dX6_best_41 : decode cX6_best 41 = .ok (.aload_n 0, 1) := by decide +kernel
theorem dX6_best_42 : decode cX6_best 42 = .ok (.iload_n 1, 1) := by decide +kernel
theorem dX6_best_43 : decode cX6_best 43 = .ok (.invokevirtual 105, 3) := by decide +kernel
theorem dX6_best_46 : decode cX6_best 46 = .ok (.if_icmp .lt 9, 3) := by decide +kernel
theorem dX6_best_49 : decode cX6_best 49 = .ok (.aload_n 0, 1) := by decide +kernel
theorem dX6_best_50 : decode cX6_best 50 = .ok (.iconst 3, 1) := by decide +kernel
theorem dX6_best_51 : decode cX6_best 51 = .ok (.invokevirtual 68, 3) := by decide +kernel
theorem dX6_best_54 : decode cX6_best 54 = .ok (.ireturn, 1) := by decide +kernel
theorem dX6_best_55 : decode cX6_best 55 = .ok (.iload_n 3, 1) := by decide +kernel
theorem dX6_best_56 : decode cX6_best 56 = .ok (.iconst (-1), 1) := by decide +kernel
theorem dX6_best_57 : decode cX6_best 57 = .ok (.if_icmp .ne 12, 3) := by decide +kernel
theorem dX6_best_60 : decode cX6_best 60 = .ok (.aload_n 0, 1) := by decide +kernel
theorem dX6_best_61 : decode cX6_best 61 = .ok (.iconst 0, 1) := by decide +kernel
theorem dX6_best_62 : decode cX6_best 62 = .ok (.iload_n 2, 1) := by decide +kernel
theorem dX6_best_63 : decode cX6_best 63 = .ok (.invokevirtual 125, 3) := by decide +kernel
theorem dX6_best_66 : decode cX6_best 66 = .ok (.goto 9, 3) := by decide +kernel
theorem dX6_best_69 : decode cX6_best 69 = .ok (.aload_n 0, 1) := by decide +kernel
theorem dX6_best_70 : decode cX6_best 70 = .ok (.getfield 32, 3) := by decide +kernel
theorem dX6_best_73 : decode cX6_best 73 = .ok (.iload_n 3, 1) := by decide +kernel
theorem dX6_best_74 : decode cX6_best 74 = .ok (.iaload, 1) := by decide +kernel
theorem dX6_best_75 : decode cX6_best 75 = .ok (.ireturn, 1) := by decide +kernel
set_option maxRecDepth 20000 in
theorem ggX6_richest_X6_isTale : GoodIn wsX6_richest wsX6_isTale := goodIn_r _ [6, 7, 8, 9, 5, 10, 49, 50, 51, 52, 53, 54, 55, 56, 57, 58, 59, 60, 61, 62, 63, 64, 65, 66, 67, 68] (by decide +kernel) (by decide +kernel)
set_option maxRecDepth 20000 in
theorem gX6_richest_X6_isTale : GoodIn wsX6_richest (wsV RX6 102 RX6 yX6_isTale wsX6_isTale) := goodIn_app (goodIn_of _ (by decide +kernel)) ggX6_richest_X6_isTale
set_option maxRecDepth 20000 in
theorem ggX6_richest_X6_no : GoodIn wsX6_richest wsX6_no := goodIn_r _ [14, 15, 16, 49, 50, 51, 52, 53, 54, 55, 56, 57, 58, 59, 60, 61, 62, 63, 64, 65, 66, 67, 68] (by decide +kernel) (by decide +kernel)
set_option maxRecDepth 20000 in
theorem gX6_richest_X6_no : GoodIn wsX6_richest (wsV RX6 68 RX6 yX6_no wsX6_no) := goodIn_app (goodIn_of _ (by decide +kernel)) ggX6_richest_X6_no
set_option maxRecDepth 20000 in
theorem ggX6_richest_X6_weighs : GoodIn wsX6_richest wsX6_weighs := goodIn_r _ [20, 21, 1, 22, 23, 24, 5, 25, 7, 26, 27, 28, 29, 30, 31, 32, 33, 34, 35, 36, 37, 38, 39, 40, 41, 42, 43, 44, 45, 46, 47, 48, 49, 50, 51, 52, 53, 54, 55, 56, 57, 58, 59, 60, 61, 62, 63, 64, 65, 66, 67, 68] (by decide +kernel) (by decide +kernel)
set_option maxRecDepth 20000 in
theorem gX6_richest_X6_weighs : GoodIn wsX6_richest (wsV RX6 128 RX6 yX6_weighs wsX6_weighs) := goodIn_app (goodIn_of _ (by decide +kernel)) ggX6_richest_X6_weighs
set_option maxRecDepth 20000 in
theorem ggX6_richest_X6_worthAt : GoodIn wsX6_richest wsX6_worthAt := goodIn_r _ [33, 1, 21, 49, 50, 51, 52, 53, 54, 55, 56, 57, 58, 59, 60, 61, 62, 63, 64, 65, 66, 67, 68] (by decide +kernel) (by decide +kernel)
set_option maxRecDepth 20000 in
theorem gX6_richest_X6_worthAt : GoodIn wsX6_richest (wsV RX6 125 RX6 yX6_worthAt wsX6_worthAt) := goodIn_app (goodIn_of _ (by decide +kernel)) ggX6_richest_X6_worthAt
theorem dX6_richest_0 : decode cX6_richest 0 = .ok (.aload_n 0, 1) := by decide +kernel
theorem dX6_richest_1 : decode cX6_richest 1 = .ok (.iload_n 1, 1) := by decide +kernel
theorem dX6_richest_2 : decode cX6_richest 2 = .ok (.invokevirtual 102, 3) := by decide +kernel
theorem dX6_richest_5 : decode cX6_richest 5 = .ok (.ifCond .ne 9, 3) := by decide +kernel
theorem dX6_richest_8 : decode cX6_richest 8 = .ok (.aload_n 0, 1) := by decide +kernel
theorem dX6_richest_9 : decode cX6_richest 9 = .ok (.iconst 0, 1) := by decide +kernel
theorem dX6_richest_10 : decode cX6_richest 10 = .ok (.invokevirtual 68, 3) := by decide +kernel
theorem dX6_richest_13 : decode cX6_richest 13 = .ok (.ireturn, 1) := by decide +kernel
theorem dX6_richest_14 : decode cX6_richest 14 = .ok (.aload_n 0, 1) := by decide +kernel
theorem dX6_richest_15 : decode cX6_richest 15 = .ok (.iload_n 1, 1) := by decide +kernel
theorem dX6_richest_16 : decode cX6_richest 16 = .ok (.invokevirtual 128, 3) := by decide +kernel
theorem dX6_richest_19 : decode cX6_richest 19 = .ok (.iconst 0, 1) := by decide +kernel
theorem dX6_richest_20 : decode cX6_richest 20 = .ok (.istore_n 2, 1) := by decide +kernel
theorem dX6_richest_21 : decode cX6_richest 21 = .ok (.iconst 1, 1) := by decide +kernel
theorem dX6_richest_22 : decode cX6_richest 22 = .ok (.istore_n 3, 1) := by decide +kernel
theorem dX6_richest_23 : decode cX6_richest 23 = .ok (.iload_n 3, 1) := by decide +kernel
theorem dX6_richest_24 : decode cX6_richest 24 = .ok (.bipush 120, 2) := by decide +kernel
theorem dX6_richest_26 : decode cX6_richest 26 = .ok (.if_icmp .gt 30, 3) := by decide +kernel
theorem dX6_richest_29 : decode cX6_richest 29 = .ok (.aload_n 0, 1) := by decide +kernel
theorem dX6_richest_30 : decode cX6_richest 30 = .ok (.iconst 0, 1) := by decide +kernel
theorem dX6_richest_31 : decode cX6_richest 31 = .ok (.iload_n 3, 1) := by decide +kernel
theorem dX6_richest_32 : decode cX6_richest 32 = .ok (.invokevirtual 125, 3) := by decide +kernel
theorem dX6_richest_35 : decode cX6_richest 35 = .ok (.aload_n 0, 1) := by decide +kernel
theorem dX6_richest_36 : decode cX6_richest 36 = .ok (.iconst 0, 1) := by decide +kernel
theorem dX6_richest_37 : decode cX6_richest 37 = .ok (.iload_n 2, 1) := by decide +kernel
theorem dX6_richest_38 : decode cX6_richest 38 = .ok (.invokevirtual 125, 3) := by decide +kernel
theorem dX6_richest_41 : decode cX6_richest 41 = .ok (.if_icmp .le 7, 3) := by decide +kernel
theorem dX6_richest_44 : decode cX6_richest 44 = .ok (.iload_n 3, 1) := by decide +kernel
theorem dX6_richest_45 : decode cX6_richest 45 = .ok (.goto 4, 3) := by decide +kernel
theorem dX6_richest_48 : decode cX6_richest 48 = .ok (.iload_n 2, 1) := by decide +kernel
theorem dX6_richest_49 : decode cX6_richest 49 = .ok (.istore_n 2, 1) := by decide +kernel
theorem dX6_richest_50 : decode cX6_richest 50 = .ok (.iinc 3 1, 3) := by decide +kernel
theorem dX6_richest_53 : decode cX6_richest 53 = .ok (.goto (-30), 3) := by decide +kernel
theorem dX6_richest_56 : decode cX6_richest 56 = .ok (.aload_n 0, 1) := by decide +kernel
theorem dX6_richest_57 : decode cX6_richest 57 = .ok (.iconst 0, 1) := by decide +kernel
theorem dX6_richest_58 : decode cX6_richest 58 = .ok (.iload_n 2, 1) := by decide +kernel
theorem dX6_richest_59 : decode cX6_richest 59 = .ok (.invokevirtual 125, 3) := by decide +kernel
theorem dX6_richest_62 : decode cX6_richest 62 = .ok (.ldc 124, 2) := by decide +kernel
theorem dX6_richest_64 : decode cX6_richest 64 = .ok (.if_icmp .ne 11, 3) := by decide +kernel
theorem dX6_richest_67 : decode cX6_richest 67 = .ok (.aload_n 0, 1) := by decide +kernel
theorem dX6_richest_68 : decode cX6_richest 68 = .ok (.iconst 3, 1) := by decide +kernel
theorem dX6_richest_69 : decode cX6_richest 69 = .ok (.invokevirtual 68, 3) := by decide +kernel
theorem dX6_richest_72 : decode cX6_richest 72 = .ok (.goto 4, 3) := by decide +kernel
theorem dX6_richest_75 : decode cX6_richest 75 = .ok (.iload_n 2, 1) := by decide +kernel
theorem dX6_richest_76 : decode cX6_richest 76 = .ok (.ireturn, 1) := by decide +kernel
set_option maxRecDepth 20000 in
theorem ggX6_fills_X6_isTale : GoodIn wsX6_fills wsX6_isTale := goodIn_r _ [7, 2, 8, 9, 6, 10, 44, 45, 46, 47, 48, 49, 50, 51, 52, 53, 54, 55, 56, 57, 58, 59, 60, 61, 62, 63] (by decide +kernel) (by decide +kernel)
set_option maxRecDepth 20000 in
theorem gX6_fills_X6_isTale : GoodIn wsX6_fills (wsV RX6 102 RX6 yX6_isTale wsX6_isTale) := goodIn_app (goodIn_of _ (by decide +kernel)) ggX6_fills_X6_isTale
set_option maxRecDepth 20000 in
theorem ggX6_fills_X6_isWords : GoodIn wsX6_fills wsX6_isWords := goodIn_r _ [13, 8, 9, 6, 10] (by decide +kernel) (by decide +kernel)
set_option maxRecDepth 20000 in
theorem gX6_fills_X6_isWords : GoodIn wsX6_fills (va_wsS RX6 118 yX6_isWords wsX6_isWords) := goodIn_app (goodIn_of _ (by decide +kernel)) ggX6_fills_X6_isWords
set_option maxRecDepth 20000 in
theorem ggX6_fills_X6_no : GoodIn wsX6_fills wsX6_no := goodIn_r _ [17, 18, 19, 44, 45, 46, 47, 48, 49, 50, 51, 52, 53, 54, 55, 56, 57, 58, 59, 60, 61, 62, 63] (by decide +kernel) (by decide +kernel)
set_option maxRecDepth 20000 in
theorem gX6_fills_X6_no : GoodIn wsX6_fills (wsV RX6 68 RX6 yX6_no wsX6_no) := goodIn_app (goodIn_of _ (by decide +kernel)) ggX6_fills_X6_no
set_option maxRecDepth 20000 in
theorem ggX6_fills_X6_long_ : GoodIn wsX6_fills wsX6_long_ := goodIn_r _ [23, 2, 44, 45, 46, 47, 48, 49, 50, 51, 52, 53, 54, 55, 56, 57, 58, 59, 60, 61, 62, 63] (by decide +kernel) (by decide +kernel)
set_option maxRecDepth 20000 in
theorem gX6_fills_X6_long_ : GoodIn wsX6_fills (wsV RX6 105 RX6 yX6_long_ wsX6_long_) := goodIn_app (goodIn_of _ (by decide +kernel)) ggX6_fills_X6_long_
set_option maxRecDepth 20000 in
theorem ggX6_fills_X6_counts : GoodIn wsX6_fills wsX6_counts := goodIn_r _ [27, 1, 28, 29, 30, 31, 6, 32, 2, 33, 34, 35, 36, 37, 38, 39, 40, 41, 42, 43, 44, 45, 46, 47, 48, 49, 50, 51, 52, 53, 54, 55, 56, 57, 58, 59, 60, 61, 62, 63] (by decide +kernel) (by decide +kernel)
set_option maxRecDepth 20000 in
theorem gX6_fills_X6_counts : GoodIn wsX6_fills (wsV RX6 115 RX6 yX6_counts wsX6_counts) := goodIn_app (goodIn_of _ (by decide +kernel)) ggX6_fills_X6_counts
set_option maxRecDepth 20000 in
theorem ggX6_fills_X6_isLength : GoodIn wsX6_fills wsX6_isLength := goodIn_r _ [36, 37, 38, 39, 6, 40, 2, 41, 42, 43, 44, 45, 46, 47, 48, 49, 50, 51, 52, 53, 54, 55, 56, 57, 58, 59, 60, 61, 62, 63] (by decide +kernel) (by decide +kernel)
set_option maxRecDepth 20000 in
theorem gX6_fills_X6_isLength : GoodIn wsX6_fills (wsV RX6 83 RX6 yX6_isLength wsX6_isLength) := goodIn_app (goodIn_of _ (by decide +kernel)) ggX6_fills_X6_isLength
theorem dX6_fills_0 : decode cX6_fills 0 = .ok (.aload_n 0, 1) := by decide +kernel
theorem dX6_fills_1 : decode cX6_fills 1 = .ok (.iload_n 1, 1) := by decide +kernel
theorem dX6_fills_2 : decode cX6_fills 2 = .ok (.invokevirtual 102, 3) := by decide +kernel
theorem dX6_fills_5 : decode cX6_fills 5 = .ok (.ifCond .eq 10, 3) := by decide +kernel
theorem dX6_fills_8 : decode cX6_fills 8 = .ok (.iload_n 2, 1) := by decide +kernel
theorem dX6_fills_9 : decode cX6_fills 9 = .ok (.invokestatic 118, 3) := by decide +kernel
theorem dX6_fills_12 : decode cX6_fills 12 = .ok (.ifCond .ne 9, 3) := by decide +kernel
theorem dX6_fills_15 : decode cX6_fills 15 = .ok (.aload_n 0, 1) := by decide +kernel
theorem dX6_fills_16 : decode cX6_fills 16 = .ok (.iconst 0, 1) := by decide +kernel
theorem dX6_fills_17 : decode cX6_fills 17 = .ok (.invokevirtual 68, 3) := by decide +kernel
theorem dX6_fills_20 : decode cX6_fills 20 = .ok (.ireturn, 1) := by decide +kernel
theorem dX6_fills_21 : decode cX6_fills 21 = .ok (.aload_n 0, 1) := by decide +kernel
theorem dX6_fills_22 : decode cX6_fills 22 = .ok (.iload_n 1, 1) := by decide +kernel
theorem dX6_fills_23 : decode cX6_fills 23 = .ok (.invokevirtual 105, 3) := by decide +kernel
theorem dX6_fills_26 : decode cX6_fills 26 = .ok (.bipush 10, 2) := by decide +kernel
theorem dX6_fills_28 : decode cX6_fills 28 = .ok (.if_icmp .ne 9, 3) := by decide +kernel
theorem dX6_fills_31 : decode cX6_fills 31 = .ok (.aload_n 0, 1) := by decide +kernel
theorem dX6_fills_32 : decode cX6_fills 32 = .ok (.iconst 1, 1) := by decide +kernel
theorem dX6_fills_33 : decode cX6_fills 33 = .ok (.invokevirtual 68, 3) := by decide +kernel
theorem dX6_fills_36 : decode cX6_fills 36 = .ok (.ireturn, 1) := by decide +kernel
theorem dX6_fills_37 : decode cX6_fills 37 = .ok (.aload_n 0, 1) := by decide +kernel
theorem dX6_fills_38 : decode cX6_fills 38 = .ok (.iload_n 1, 1) := by decide +kernel
theorem dX6_fills_39 : decode cX6_fills 39 = .ok (.aload_n 0, 1) := by decide +kernel
theorem dX6_fills_40 : decode cX6_fills 40 = .ok (.iload_n 1, 1) := by decide +kernel
theorem dX6_fills_41 : decode cX6_fills 41 = .ok (.invokevirtual 105, 3) := by decide +kernel
theorem dX6_fills_44 : decode cX6_fills 44 = .ok (.invokevirtual 115, 3) := by decide +kernel
theorem dX6_fills_47 : decode cX6_fills 47 = .ok (.aload_n 0, 1) := by decide +kernel
theorem dX6_fills_48 : decode cX6_fills 48 = .ok (.getfield 22, 3) := by decide +kernel
theorem dX6_fills_51 : decode cX6_fills 51 = .ok (.iload_n 2, 1) := by decide +kernel
theorem dX6_fills_52 : decode cX6_fills 52 = .ok (.laload, 1) := by decide +kernel
theorem dX6_fills_53 : decode cX6_fills 53 = .ok (.lconst 0, 1) := by decide +kernel
theorem dX6_fills_54 : decode cX6_fills 54 = .ok (.lcmp, 1) := by decide +kernel
theorem dX6_fills_55 : decode cX6_fills 55 = .ok (.ifCond .le 9, 3) := by decide +kernel
theorem dX6_fills_58 : decode cX6_fills 58 = .ok (.aload_n 0, 1) := by decide +kernel
theorem dX6_fills_59 : decode cX6_fills 59 = .ok (.iconst 4, 1) := by decide +kernel
theorem dX6_fills_60 : decode cX6_fills 60 = .ok (.invokevirtual 68, 3) := by decide +kernel
theorem dX6_fills_63 : decode cX6_fills 63 = .ok (.ireturn, 1) := by decide +kernel
theorem dX6_fills_64 : decode cX6_fills 64 = .ok (.iconst 0, 1) := by decide +kernel
theorem dX6_fills_65 : decode cX6_fills 65 = .ok (.istore_n 3, 1) := by decide +kernel
theorem dX6_fills_66 : decode cX6_fills 66 = .ok (.iload_n 3, 1) := by decide +kernel
theorem dX6_fills_67 : decode cX6_fills 67 = .ok (.aload_n 0, 1) := by decide +kernel
theorem dX6_fills_68 : decode cX6_fills 68 = .ok (.getfield 9, 3) := by decide +kernel
theorem dX6_fills_71 : decode cX6_fills 71 = .ok (.iconst 1, 1) := by decide +kernel
theorem dX6_fills_72 : decode cX6_fills 72 = .ok (.iaload, 1) := by decide +kernel
theorem dX6_fills_73 : decode cX6_fills 73 = .ok (.if_icmp .ge 57, 3) := by decide +kernel
theorem dX6_fills_76 : decode cX6_fills 76 = .ok (.iconst 0, 1) := by decide +kernel
theorem dX6_fills_77 : decode cX6_fills 77 = .ok (.istore 4, 2) := by decide +kernel
theorem dX6_fills_79 : decode cX6_fills 79 = .ok (.iload 4, 2) := by decide +kernel
theorem dX6_fills_81 : decode cX6_fills 81 = .ok (.iload_n 2, 1) := by decide +kernel
theorem dX6_fills_82 : decode cX6_fills 82 = .ok (.if_icmp .gt 42, 3) := by decide +kernel
theorem dX6_fills_85 : decode cX6_fills 85 = .ok (.iload 4, 2) := by decide +kernel
theorem dX6_fills_87 : decode cX6_fills 87 = .ok (.bipush 25, 2) := by decide +kernel
theorem dX6_fills_89 : decode cX6_fills 89 = .ok (.if_icmp .ge 35, 3) := by decide +kernel
theorem dX6_fills_92 : decode cX6_fills 92 = .ok (.aload_n 0, 1) := by decide +kernel
theorem dX6_fills_93 : decode cX6_fills 93 = .ok (.iload_n 3, 1) := by decide +kernel
theorem dX6_fills_94 : decode cX6_fills 94 = .ok (.iload 4, 2) := by decide +kernel
theorem dX6_fills_96 : decode cX6_fills 96 = .ok (.invokevirtual 83, 3) := by decide +kernel
theorem dX6_fills_99 : decode cX6_fills 99 = .ok (.ifCond .eq 19, 3) := by decide +kernel
theorem dX6_fills_102 : decode cX6_fills 102 = .ok (.aload_n 0, 1) := by decide +kernel
theorem dX6_fills_103 : decode cX6_fills 103 = .ok (.getfield 22, 3) := by decide +kernel
theorem dX6_fills_106 : decode cX6_fills 106 = .ok (.iload_n 2, 1) := by decide +kernel
theorem dX6_fills_107 : decode cX6_fills 107 = .ok (.iload 4, 2) := by decide +kernel
theorem dX6_fills_109 : decode cX6_fills 109 = .ok (.isub, 1) := by decide +kernel
theorem dX6_fills_110 : decode cX6_fills 110 = .ok (.laload, 1) := by decide +kernel
theorem dX6_fills_111 : decode cX6_fills 111 = .ok (.lconst 0, 1) := by decide +kernel
theorem dX6_fills_112 : decode cX6_fills 112 = .ok (.lcmp, 1) := by decide +kernel
theorem dX6_fills_113 : decode cX6_fills 113 = .ok (.ifCond .le 5, 3) := by decide +kernel
theorem dX6_fills_116 : decode cX6_fills 116 = .ok (.iload_n 3, 1) := by decide +kernel
theorem dX6_fills_117 : decode cX6_fills 117 = .ok (.ireturn, 1) := by decide +kernel
theorem dX6_fills_118 : decode cX6_fills 118 = .ok (.iinc 4 1, 3) := by decide +kernel
theorem dX6_fills_121 : decode cX6_fills 121 = .ok (.goto (-42), 3) := by decide +kernel
theorem dX6_fills_124 : decode cX6_fills 124 = .ok (.iinc 3 1, 3) := by decide +kernel
theorem dX6_fills_127 : decode cX6_fills 127 = .ok (.goto (-61), 3) := by decide +kernel
theorem dX6_fills_130 : decode cX6_fills 130 = .ok (.aload_n 0, 1) := by decide +kernel
theorem dX6_fills_131 : decode cX6_fills 131 = .ok (.iconst 3, 1) := by decide +kernel
theorem dX6_fills_132 : decode cX6_fills 132 = .ok (.invokevirtual 68, 3) := by decide +kernel
theorem dX6_fills_135 : decode cX6_fills 135 = .ok (.ireturn, 1) := by decide +kernel
set_option maxRecDepth 20000 in
theorem ggX6_hearer_X6_isAge : GoodIn wsX6_hearer wsX6_isAge := goodIn_r _ [5, 6, 7, 4, 8] (by decide +kernel) (by decide +kernel)
set_option maxRecDepth 20000 in
theorem gX6_hearer_X6_isAge : GoodIn wsX6_hearer (va_wsS RX6 135 yX6_isAge wsX6_isAge) := goodIn_app (goodIn_of _ (by decide +kernel)) ggX6_hearer_X6_isAge
set_option maxRecDepth 20000 in
theorem ggX6_hearer_X6_no : GoodIn wsX6_hearer wsX6_no := goodIn_r _ [12, 13, 14, 15, 16, 17, 18, 19, 20, 21, 22, 23, 24, 25, 26, 27, 28, 29, 30, 31, 32, 33, 34] (by decide +kernel) (by decide +kernel)
set_option maxRecDepth 20000 in
theorem gX6_hearer_X6_no : GoodIn wsX6_hearer (wsV RX6 68 RX6 yX6_no wsX6_no) := goodIn_app (goodIn_of _ (by decide +kernel)) ggX6_hearer_X6_no
theorem dX6_hearer_0 : decode cX6_hearer 0 = .ok (.iload_n 1, 1) := by decide +kernel
theorem dX6_hearer_1 : decode cX6_hearer 1 = .ok (.invokestatic 135, 3) := by decide +kernel
theorem dX6_hearer_4 : decode cX6_hearer 4 = .ok (.ifCond .ne 9, 3) := by decide +kernel
theorem dX6_hearer_7 : decode cX6_hearer 7 = .ok (.aload_n 0, 1) := by decide +kernel
theorem dX6_hearer_8 : decode cX6_hearer 8 = .ok (.iconst 0, 1) := by decide +kernel
theorem dX6_hearer_9 : decode cX6_hearer 9 = .ok (.invokevirtual 68, 3) := by decide +kernel
theorem dX6_hearer_12 : decode cX6_hearer 12 = .ok (.ireturn, 1) := by decide +kernel
theorem dX6_hearer_13 : decode cX6_hearer 13 = .ok (.aload_n 0, 1) := by decide +kernel
theorem dX6_hearer_14 : decode cX6_hearer 14 = .ok (.getfield 9, 3) := by decide +kernel
theorem dX6_hearer_17 : decode cX6_hearer 17 = .ok (.iconst 3, 1) := by decide +kernel
theorem dX6_hearer_18 : decode cX6_hearer 18 = .ok (.iaload, 1) := by decide +kernel
theorem dX6_hearer_19 : decode cX6_hearer 19 = .ok (.bipush 10, 2) := by decide +kernel
theorem dX6_hearer_21 : decode cX6_hearer 21 = .ok (.if_icmp .ne 9, 3) := by decide +kernel
theorem dX6_hearer_24 : decode cX6_hearer 24 = .ok (.aload_n 0, 1) := by decide +kernel
theorem dX6_hearer_25 : decode cX6_hearer 25 = .ok (.iconst 1, 1) := by decide +kernel
theorem dX6_hearer_26 : decode cX6_hearer 26 = .ok (.invokevirtual 68, 3) := by decide +kernel
theorem dX6_hearer_29 : decode cX6_hearer 29 = .ok (.ireturn, 1) := by decide +kernel
theorem dX6_hearer_30 : decode cX6_hearer 30 = .ok (.aload_n 0, 1) := by decide +kernel
theorem dX6_hearer_31 : decode cX6_hearer 31 = .ok (.getfield 9, 3) := by decide +kernel
theorem dX6_hearer_34 : decode cX6_hearer 34 = .ok (.sipush 156, 3) := by decide +kernel
theorem dX6_hearer_37 : decode cX6_hearer 37 = .ok (.aload_n 0, 1) := by decide +kernel
theorem dX6_hearer_38 : decode cX6_hearer 38 = .ok (.getfield 9, 3) := by decide +kernel
theorem dX6_hearer_41 : decode cX6_hearer 41 = .ok (.iconst 3, 1) := by decide +kernel
theorem dX6_hearer_42 : decode cX6_hearer 42 = .ok (.iaload, 1) := by decide +kernel
theorem dX6_hearer_43 : decode cX6_hearer 43 = .ok (.iadd, 1) := by decide +kernel
theorem dX6_hearer_44 : decode cX6_hearer 44 = .ok (.iload_n 1, 1) := by decide +kernel
theorem dX6_hearer_45 : decode cX6_hearer 45 = .ok (.iastore, 1) := by decide +kernel
theorem dX6_hearer_46 : decode cX6_hearer 46 = .ok (.aload_n 0, 1) := by decide +kernel
theorem dX6_hearer_47 : decode cX6_hearer 47 = .ok (.getfield 9, 3) := by decide +kernel
theorem dX6_hearer_50 : decode cX6_hearer 50 = .ok (.iconst 3, 1) := by decide +kernel
theorem dX6_hearer_51 : decode cX6_hearer 51 = .ok (.dup2, 1) := by decide +kernel
theorem dX6_hearer_52 : decode cX6_hearer 52 = .ok (.iaload, 1) := by decide +kernel
theorem dX6_hearer_53 : decode cX6_hearer 53 = .ok (.iconst 1, 1) := by decide +kernel
theorem dX6_hearer_54 : decode cX6_hearer 54 = .ok (.iadd, 1) := by decide +kernel
theorem dX6_hearer_55 : decode cX6_hearer 55 = .ok (.iastore, 1) := by decide +kernel
theorem dX6_hearer_56 : decode cX6_hearer 56 = .ok (.aload_n 0, 1) := by decide +kernel
theorem dX6_hearer_57 : decode cX6_hearer 57 = .ok (.getfield 9, 3) := by decide +kernel
theorem dX6_hearer_60 : decode cX6_hearer 60 = .ok (.iconst 3, 1) := by decide +kernel
theorem dX6_hearer_61 : decode cX6_hearer 61 = .ok (.iaload, 1) := by decide +kernel
theorem dX6_hearer_62 : decode cX6_hearer 62 = .ok (.iconst 1, 1) := by decide +kernel
theorem dX6_hearer_63 : decode cX6_hearer 63 = .ok (.isub, 1) := by decide +kernel
theorem dX6_hearer_64 : decode cX6_hearer 64 = .ok (.ireturn, 1) := by decide +kernel
set_option maxRecDepth 20000 in
theorem ggX6_age_X6_isHearer : GoodIn wsX6_age wsX6_isHearer := goodIn_r _ [5, 6, 7, 8, 4, 9, 23, 24, 25, 26, 27, 28, 29, 30, 31, 32, 33, 34, 35, 36, 37, 38, 39, 40, 41, 42] (by decide +kernel) (by decide +kernel)
set_option maxRecDepth 20000 in
theorem gX6_age_X6_isHearer : GoodIn wsX6_age (wsV RX6 138 RX6 yX6_isHearer wsX6_isHearer) := goodIn_app (goodIn_of _ (by decide +kernel)) ggX6_age_X6_isHearer
set_option maxRecDepth 20000 in
theorem ggX6_age_X6_isAge : GoodIn wsX6_age wsX6_isAge := goodIn_r _ [12, 7, 8, 4, 9] (by decide +kernel) (by decide +kernel)
set_option maxRecDepth 20000 in
theorem gX6_age_X6_isAge : GoodIn wsX6_age (va_wsS RX6 135 yX6_isAge wsX6_isAge) := goodIn_app (goodIn_of _ (by decide +kernel)) ggX6_age_X6_isAge
set_option maxRecDepth 20000 in
theorem ggX6_age_X6_puts : GoodIn wsX6_age wsX6_puts := goodIn_r _ [16, 6, 23, 24, 25, 26, 27, 28, 29, 30, 31, 32, 33, 34, 35, 36, 37, 38, 39, 40, 41, 42] (by decide +kernel) (by decide +kernel)
set_option maxRecDepth 20000 in
theorem gX6_age_X6_puts : GoodIn wsX6_age (wsV RX6 93 RX6 yX6_puts wsX6_puts) := goodIn_app (goodIn_of _ (by decide +kernel)) ggX6_age_X6_puts
set_option maxRecDepth 20000 in
theorem ggX6_age_X6_no : GoodIn wsX6_age wsX6_no := goodIn_r _ [20, 21, 22, 23, 24, 25, 26, 27, 28, 29, 30, 31, 32, 33, 34, 35, 36, 37, 38, 39, 40, 41, 42] (by decide +kernel) (by decide +kernel)
set_option maxRecDepth 20000 in
theorem gX6_age_X6_no : GoodIn wsX6_age (wsV RX6 68 RX6 yX6_no wsX6_no) := goodIn_app (goodIn_of _ (by decide +kernel)) ggX6_age_X6_no
theorem dX6_age_0 : decode cX6_age 0 = .ok (.aload_n 0, 1) := by decide +kernel
theorem dX6_age_1 : decode cX6_age 1 = .ok (.iload_n 1, 1) := by decide +kernel
theorem dX6_age_2 : decode cX6_age 2 = .ok (.invokevirtual 138, 3) := by decide +kernel
theorem dX6_age_5 : decode cX6_age 5 = .ok (.ifCond .eq 23, 3) := by decide +kernel
theorem dX6_age_8 : decode cX6_age 8 = .ok (.iload_n 2, 1) := by decide +kernel
theorem dX6_age_9 : decode cX6_age 9 = .ok (.invokestatic 135, 3) := by decide +kernel
theorem dX6_age_12 : decode cX6_age 12 = .ok (.ifCond .eq 16, 3) := by decide +kernel
theorem dX6_age_15 : decode cX6_age 15 = .ok (.aload_n 0, 1) := by decide +kernel
theorem dX6_age_16 : decode cX6_age 16 = .ok (.sipush 156, 3) := by decide +kernel
theorem dX6_age_19 : decode cX6_age 19 = .ok (.iload_n 1, 1) := by decide +kernel
theorem dX6_age_20 : decode cX6_age 20 = .ok (.iadd, 1) := by decide +kernel
theorem dX6_age_21 : decode cX6_age 21 = .ok (.iload_n 2, 1) := by decide +kernel
theorem dX6_age_22 : decode cX6_age 22 = .ok (.invokevirtual 93, 3) := by decide +kernel
theorem dX6_age_25 : decode cX6_age 25 = .ok (.goto 8, 3) := by decide +kernel
theorem dX6_age_28 : decode cX6_age 28 = .ok (.aload_n 0, 1) := by decide +kernel
theorem dX6_age_29 : decode cX6_age 29 = .ok (.iconst 0, 1) := by decide +kernel
theorem dX6_age_30 : decode cX6_age 30 = .ok (.invokevirtual 68, 3) := by decide +kernel
theorem dX6_age_33 : decode cX6_age 33 = .ok (.ireturn, 1) := by decide +kernel
set_option maxRecDepth 20000 in
theorem ggX6_ageOf_X6_isHearer : GoodIn wsX6_ageOf wsX6_isHearer := goodIn_r _ [6, 1, 7, 8, 5, 9, 16, 17, 18, 19, 20, 21, 22, 23, 24, 25, 26, 27, 28, 29, 30, 31, 32, 33, 34, 35] (by decide +kernel) (by decide +kernel)
set_option maxRecDepth 20000 in
theorem gX6_ageOf_X6_isHearer : GoodIn wsX6_ageOf (wsV RX6 138 RX6 yX6_isHearer wsX6_isHearer) := goodIn_app (goodIn_of _ (by decide +kernel)) ggX6_ageOf_X6_isHearer
set_option maxRecDepth 20000 in
theorem ggX6_ageOf_X6_no : GoodIn wsX6_ageOf wsX6_no := goodIn_r _ [13, 14, 15, 16, 17, 18, 19, 20, 21, 22, 23, 24, 25, 26, 27, 28, 29, 30, 31, 32, 33, 34, 35] (by decide +kernel) (by decide +kernel)
set_option maxRecDepth 20000 in
theorem gX6_ageOf_X6_no : GoodIn wsX6_ageOf (wsV RX6 68 RX6 yX6_no wsX6_no) := goodIn_app (goodIn_of _ (by decide +kernel)) ggX6_ageOf_X6_no
theorem dX6_ageOf_0 : decode cX6_ageOf 0 = .ok (.aload_n 0, 1) := by decide +kernel
theorem dX6_ageOf_1 : decode cX6_ageOf 1 = .ok (.iload_n 1, 1) := by decide +kernel
theorem dX6_ageOf_2 : decode cX6_ageOf 2 = .ok (.invokevirtual 138, 3) := by decide +kernel
theorem dX6_ageOf_5 : decode cX6_ageOf 5 = .ok (.ifCond .eq 16, 3) := by decide +kernel
theorem dX6_ageOf_8 : decode cX6_ageOf 8 = .ok (.aload_n 0, 1) := by decide +kernel
theorem dX6_ageOf_9 : decode cX6_ageOf 9 = .ok (.getfield 9, 3) := by decide +kernel
theorem dX6_ageOf_12 : decode cX6_ageOf 12 = .ok (.sipush 156, 3) := by decide +kernel
theorem dX6_ageOf_15 : decode cX6_ageOf 15 = .ok (.iload_n 1, 1) := by decide +kernel
theorem dX6_ageOf_16 : decode cX6_ageOf 16 = .ok (.iadd, 1) := by decide +kernel
theorem dX6_ageOf_17 : decode cX6_ageOf 17 = .ok (.iaload, 1) := by decide +kernel
theorem dX6_ageOf_18 : decode cX6_ageOf 18 = .ok (.goto 8, 3) := by decide +kernel
theorem dX6_ageOf_21 : decode cX6_ageOf 21 = .ok (.aload_n 0, 1) := by decide +kernel
theorem dX6_ageOf_22 : decode cX6_ageOf 22 = .ok (.iconst 0, 1) := by decide +kernel
theorem dX6_ageOf_23 : decode cX6_ageOf 23 = .ok (.invokevirtual 68, 3) := by decide +kernel
theorem dX6_ageOf_26 : decode cX6_ageOf 26 = .ok (.ireturn, 1) := by decide +kernel
set_option maxRecDepth 20000 in
theorem ggX6_toWhom_X6_long_ : GoodIn wsX6_toWhom wsX6_long_ := goodIn_r _ [7, 1, 28, 29, 30, 31, 32, 33, 34, 35, 36, 37, 38, 39, 40, 41, 42, 43, 44, 45, 46, 47] (by decide +kernel) (by decide +kernel)
set_option maxRecDepth 20000 in
theorem gX6_toWhom_X6_long_ : GoodIn wsX6_toWhom (wsV RX6 105 RX6 yX6_long_ wsX6_long_) := goodIn_app (goodIn_of _ (by decide +kernel)) ggX6_toWhom_X6_long_
set_option maxRecDepth 20000 in
theorem ggX6_toWhom_X6_counts : GoodIn wsX6_toWhom wsX6_counts := goodIn_r _ [11, 2, 12, 13, 14, 15, 6, 16, 1, 17, 18, 19, 20, 21, 22, 23, 24, 25, 26, 27, 28, 29, 30, 31, 32, 33, 34, 35, 36, 37, 38, 39, 40, 41, 42, 43, 44, 45, 46, 47] (by decide +kernel) (by decide +kernel)
set_option maxRecDepth 20000 in
theorem gX6_toWhom_X6_counts : GoodIn wsX6_toWhom (wsV RX6 115 RX6 yX6_counts wsX6_counts) := goodIn_app (goodIn_of _ (by decide +kernel)) ggX6_toWhom_X6_counts
theorem dX6_toWhom_0 : decode cX6_toWhom 0 = .ok (.aload_n 0, 1) := by decide +kernel
theorem dX6_toWhom_1 : decode cX6_toWhom 1 = .ok (.iload_n 1, 1) := by decide +kernel
theorem dX6_toWhom_2 : decode cX6_toWhom 2 = .ok (.aload_n 0, 1) := by decide +kernel
theorem dX6_toWhom_3 : decode cX6_toWhom 3 = .ok (.iload_n 1, 1) := by decide +kernel
theorem dX6_toWhom_4 : decode cX6_toWhom 4 = .ok (.invokevirtual 105, 3) := by decide +kernel
theorem dX6_toWhom_7 : decode cX6_toWhom 7 = .ok (.invokevirtual 115, 3) := by decide +kernel
theorem dX6_toWhom_10 : decode cX6_toWhom 10 = .ok (.iconst 0, 1) := by decide +kernel
theorem dX6_toWhom_11 : decode cX6_toWhom 11 = .ok (.istore_n 2, 1) := by decide +kernel
theorem dX6_toWhom_12 : decode cX6_toWhom 12 = .ok (.iconst 0, 1) := by decide +kernel
theorem dX6_toWhom_13 : decode cX6_toWhom 13 = .ok (.istore_n 3, 1) := by decide +kernel
theorem dX6_toWhom_14 : decode cX6_toWhom 14 = .ok (.iload_n 3, 1) := by decide +kernel
theorem dX6_toWhom_15 : decode cX6_toWhom 15 = .ok (.aload_n 0, 1) := by decide +kernel
theorem dX6_toWhom_16 : decode cX6_toWhom 16 = .ok (.getfield 9, 3) := by decide +kernel
theorem dX6_toWhom_19 : decode cX6_toWhom 19 = .ok (.iconst 3, 1) := by decide +kernel
theorem dX6_toWhom_20 : decode cX6_toWhom 20 = .ok (.iaload, 1) := by decide +kernel
theorem dX6_toWhom_21 : decode cX6_toWhom 21 = .ok (.if_icmp .ge 39, 3) := by decide +kernel
theorem dX6_toWhom_24 : decode cX6_toWhom 24 = .ok (.iload_n 2, 1) := by decide +kernel
theorem dX6_toWhom_25 : decode cX6_toWhom 25 = .ok (.aload_n 0, 1) := by decide +kernel
theorem dX6_toWhom_26 : decode cX6_toWhom 26 = .ok (.getfield 22, 3) := by decide +kernel
theorem dX6_toWhom_29 : decode cX6_toWhom 29 = .ok (.aload_n 0, 1) := by decide +kernel
theorem dX6_toWhom_30 : decode cX6_toWhom 30 = .ok (.getfield 9, 3) := by decide +kernel
theorem dX6_toWhom_33 : decode cX6_toWhom 33 = .ok (.sipush 156, 3) := by decide +kernel
theorem dX6_toWhom_36 : decode cX6_toWhom 36 = .ok (.iload_n 3, 1) := by decide +kernel
theorem dX6_toWhom_37 : decode cX6_toWhom 37 = .ok (.iadd, 1) := by decide +kernel
theorem dX6_toWhom_38 : decode cX6_toWhom 38 = .ok (.iaload, 1) := by decide +kernel
theorem dX6_toWhom_39 : decode cX6_toWhom 39 = .ok (.laload, 1) := by decide +kernel
theorem dX6_toWhom_40 : decode cX6_toWhom 40 = .ok (.lconst 0, 1) := by decide +kernel
theorem dX6_toWhom_41 : decode cX6_toWhom 41 = .ok (.lcmp, 1) := by decide +kernel
theorem dX6_toWhom_42 : decode cX6_toWhom 42 = .ok (.ifCond .le 9, 3) := by decide +kernel
theorem dX6_toWhom_45 : decode cX6_toWhom 45 = .ok (.iconst 1, 1) := by decide +kernel
theorem dX6_toWhom_46 : decode cX6_toWhom 46 = .ok (.iload_n 3, 1) := by decide +kernel
theorem dX6_toWhom_47 : decode cX6_toWhom 47 = .ok (.ishl, 1) := by decide +kernel
theorem dX6_toWhom_48 : decode cX6_toWhom 48 = .ok (.goto 4, 3) := by decide +kernel
theorem dX6_toWhom_51 : decode cX6_toWhom 51 = .ok (.iconst 0, 1) := by decide +kernel
theorem dX6_toWhom_52 : decode cX6_toWhom 52 = .ok (.ior, 1) := by decide +kernel
theorem dX6_toWhom_53 : decode cX6_toWhom 53 = .ok (.istore_n 2, 1) := by decide +kernel
theorem dX6_toWhom_54 : decode cX6_toWhom 54 = .ok (.iinc 3 1, 3) := by decide +kernel
theorem dX6_toWhom_57 : decode cX6_toWhom 57 = .ok (.goto (-43), 3) := by decide +kernel
theorem dX6_toWhom_60 : decode cX6_toWhom 60 = .ok (.iload_n 2, 1) := by decide +kernel
theorem dX6_toWhom_61 : decode cX6_toWhom 61 = .ok (.ireturn, 1) := by decide +kernel
set_option maxRecDepth 20000 in
theorem ggX6_to_X6_isTale : GoodIn wsX6_to wsX6_isTale := goodIn_r _ [5, 6, 7, 8, 4, 9, 45, 46, 47, 48, 49, 50, 51, 52, 53, 54, 55, 56, 57, 58, 59, 60, 61, 62, 63, 64] (by decide +kernel) (by decide +kernel)
set_option maxRecDepth 20000 in
theorem gX6_to_X6_isTale : GoodIn wsX6_to (wsV RX6 102 RX6 yX6_isTale wsX6_isTale) := goodIn_app (goodIn_of _ (by decide +kernel)) ggX6_to_X6_isTale
set_option maxRecDepth 20000 in
theorem ggX6_to_X6_toWhom : GoodIn wsX6_to wsX6_toWhom := goodIn_r _ [13, 6, 14, 15, 16, 17, 4, 18, 19, 20, 21, 22, 23, 24, 25, 26, 27, 28, 29, 30, 31, 32, 33, 34, 35, 36, 37, 38, 45, 46, 47, 48, 49, 50, 51, 52, 53, 54, 55, 56, 57, 58, 59, 60, 61, 62, 63, 64] (by decide +kernel) (by decide +kernel)
set_option maxRecDepth 20000 in
theorem gX6_to_X6_toWhom : GoodIn wsX6_to (wsV RX6 141 RX6 yX6_toWhom wsX6_toWhom) := goodIn_app (goodIn_of _ (by decide +kernel)) ggX6_to_X6_toWhom
set_option maxRecDepth 20000 in
theorem ggX6_to_X6_no : GoodIn wsX6_to wsX6_no := goodIn_r _ [42, 43, 44, 45, 46, 47, 48, 49, 50, 51, 52, 53, 54, 55, 56, 57, 58, 59, 60, 61, 62, 63, 64] (by decide +kernel) (by decide +kernel)
set_option maxRecDepth 20000 in
theorem gX6_to_X6_no : GoodIn wsX6_to (wsV RX6 68 RX6 yX6_no wsX6_no) := goodIn_app (goodIn_of _ (by decide +kernel)) ggX6_to_X6_no
theorem dX6_to_0 : decode cX6_to 0 = .ok (.aload_n 0, 1) := by decide +kernel
theorem dX6_to_1 : decode cX6_to 1 = .ok (.iload_n 1, 1) := by decide +kernel
theorem dX6_to_2 : decode cX6_to 2 = .ok (.invokevirtual 102, 3) := by decide +kernel
theorem dX6_to_5 : decode cX6_to 5 = .ok (.ifCond .eq 11, 3) := by decide +kernel
theorem dX6_to_8 : decode cX6_to 8 = .ok (.aload_n 0, 1) := by decide +kernel
theorem dX6_to_9 : decode cX6_to 9 = .ok (.iload_n 1, 1) := by decide +kernel
theorem dX6_to_10 : decode cX6_to 10 = .ok (.invokevirtual 141, 3) := by decide +kernel
theorem dX6_to_13 : decode cX6_to 13 = .ok (.goto 8, 3) := by decide +kernel
theorem dX6_to_16 : decode cX6_to 16 = .ok (.aload_n 0, 1) := by decide +kernel
theorem dX6_to_17 : decode cX6_to 17 = .ok (.iconst 0, 1) := by decide +kernel
theorem dX6_to_18 : decode cX6_to 18 = .ok (.invokevirtual 68, 3) := by decide +kernel
theorem dX6_to_21 : decode cX6_to 21 = .ok (.ireturn, 1) := by decide +kernel
set_option maxRecDepth 20000 in
theorem ggX6_tales_X6_isHearer : GoodIn wsX6_tales wsX6_isHearer := goodIn_r _ [6, 1, 7, 8, 5, 9, 45, 46, 47, 48, 49, 50, 51, 52, 53, 54, 55, 56, 57, 58, 59, 60, 61, 62, 63, 64] (by decide +kernel) (by decide +kernel)
set_option maxRecDepth 20000 in
theorem gX6_tales_X6_isHearer : GoodIn wsX6_tales (wsV RX6 138 RX6 yX6_isHearer wsX6_isHearer) := goodIn_app (goodIn_of _ (by decide +kernel)) ggX6_tales_X6_isHearer
set_option maxRecDepth 20000 in
theorem ggX6_tales_X6_no : GoodIn wsX6_tales wsX6_no := goodIn_r _ [13, 14, 15, 45, 46, 47, 48, 49, 50, 51, 52, 53, 54, 55, 56, 57, 58, 59, 60, 61, 62, 63, 64] (by decide +kernel) (by decide +kernel)
set_option maxRecDepth 20000 in
theorem gX6_tales_X6_no : GoodIn wsX6_tales (wsV RX6 68 RX6 yX6_no wsX6_no) := goodIn_app (goodIn_of _ (by decide +kernel)) ggX6_tales_X6_no
set_option maxRecDepth 20000 in
theorem ggX6_tales_X6_long_ : GoodIn wsX6_tales wsX6_long_ := goodIn_r _ [19, 1, 45, 46, 47, 48, 49, 50, 51, 52, 53, 54, 55, 56, 57, 58, 59, 60, 61, 62, 63, 64] (by decide +kernel) (by decide +kernel)
set_option maxRecDepth 20000 in
theorem gX6_tales_X6_long_ : GoodIn wsX6_tales (wsV RX6 105 RX6 yX6_long_ wsX6_long_) := goodIn_app (goodIn_of _ (by decide +kernel)) ggX6_tales_X6_long_
set_option maxRecDepth 20000 in
theorem ggX6_tales_X6_canBe : GoodIn wsX6_tales wsX6_canBe := goodIn_r _ [23, 24, 25, 26, 27, 5, 28, 29, 30, 31, 32, 33, 1, 34, 35, 36, 37, 38, 39, 40, 41, 42, 43, 44, 45, 46, 47, 48, 49, 50, 51, 52, 53, 54, 55, 56, 57, 58, 59, 60, 61, 62, 63, 64] (by decide +kernel) (by decide +kernel)
set_option maxRecDepth 20000 in
theorem gX6_tales_X6_canBe : GoodIn wsX6_tales (wsV RX6 144 RX6 yX6_canBe wsX6_canBe) := goodIn_app (goodIn_of _ (by decide +kernel)) ggX6_tales_X6_canBe
theorem dX6_tales_0 : decode cX6_tales 0 = .ok (.aload_n 0, 1) := by decide +kernel
theorem dX6_tales_1 : decode cX6_tales 1 = .ok (.iload_n 1, 1) := by decide +kernel
theorem dX6_tales_2 : decode cX6_tales 2 = .ok (.invokevirtual 138, 3) := by decide +kernel
theorem dX6_tales_5 : decode cX6_tales 5 = .ok (.ifCond .ne 9, 3) := by decide +kernel
theorem dX6_tales_8 : decode cX6_tales 8 = .ok (.aload_n 0, 1) := by decide +kernel
theorem dX6_tales_9 : decode cX6_tales 9 = .ok (.iconst 0, 1) := by decide +kernel
theorem dX6_tales_10 : decode cX6_tales 10 = .ok (.invokevirtual 68, 3) := by decide +kernel
theorem dX6_tales_13 : decode cX6_tales 13 = .ok (.ireturn, 1) := by decide +kernel
theorem dX6_tales_14 : decode cX6_tales 14 = .ok (.iconst 0, 1) := by decide +kernel
theorem dX6_tales_15 : decode cX6_tales 15 = .ok (.istore_n 2, 1) := by decide +kernel
theorem dX6_tales_16 : decode cX6_tales 16 = .ok (.iconst 0, 1) := by decide +kernel
theorem dX6_tales_17 : decode cX6_tales 17 = .ok (.istore_n 3, 1) := by decide +kernel
theorem dX6_tales_18 : decode cX6_tales 18 = .ok (.iload_n 3, 1) := by decide +kernel
theorem dX6_tales_19 : decode cX6_tales 19 = .ok (.aload_n 0, 1) := by decide +kernel
theorem dX6_tales_20 : decode cX6_tales 20 = .ok (.getfield 9, 3) := by decide +kernel
theorem dX6_tales_23 : decode cX6_tales 23 = .ok (.iconst 2, 1) := by decide +kernel
theorem dX6_tales_24 : decode cX6_tales 24 = .ok (.iaload, 1) := by decide +kernel
theorem dX6_tales_25 : decode cX6_tales 25 = .ok (.if_icmp .ge 42, 3) := by decide +kernel
theorem dX6_tales_28 : decode cX6_tales 28 = .ok (.iload_n 2, 1) := by decide +kernel
theorem dX6_tales_29 : decode cX6_tales 29 = .ok (.aload_n 0, 1) := by decide +kernel
theorem dX6_tales_30 : decode cX6_tales 30 = .ok (.iload_n 3, 1) := by decide +kernel
theorem dX6_tales_31 : decode cX6_tales 31 = .ok (.aload_n 0, 1) := by decide +kernel
theorem dX6_tales_32 : decode cX6_tales 32 = .ok (.iload_n 3, 1) := by decide +kernel
theorem dX6_tales_33 : decode cX6_tales 33 = .ok (.invokevirtual 105, 3) := by decide +kernel
theorem dX6_tales_36 : decode cX6_tales 36 = .ok (.aload_n 0, 1) := by decide +kernel
theorem dX6_tales_37 : decode cX6_tales 37 = .ok (.getfield 9, 3) := by decide +kernel
theorem dX6_tales_40 : decode cX6_tales 40 = .ok (.sipush 156, 3) := by decide +kernel
theorem dX6_tales_43 : decode cX6_tales 43 = .ok (.iload_n 1, 1) := by decide +kernel
theorem dX6_tales_44 : decode cX6_tales 44 = .ok (.iadd, 1) := by decide +kernel
theorem dX6_tales_45 : decode cX6_tales 45 = .ok (.iaload, 1) := by decide +kernel
theorem dX6_tales_46 : decode cX6_tales 46 = .ok (.invokevirtual 144, 3) := by decide +kernel
theorem dX6_tales_49 : decode cX6_tales 49 = .ok (.ifCond .eq 9, 3) := by decide +kernel
theorem dX6_tales_52 : decode cX6_tales 52 = .ok (.iconst 1, 1) := by decide +kernel
theorem dX6_tales_53 : decode cX6_tales 53 = .ok (.iload_n 3, 1) := by decide +kernel
theorem dX6_tales_54 : decode cX6_tales 54 = .ok (.ishl, 1) := by decide +kernel
theorem dX6_tales_55 : decode cX6_tales 55 = .ok (.goto 4, 3) := by decide +kernel
theorem dX6_tales_58 : decode cX6_tales 58 = .ok (.iconst 0, 1) := by decide +kernel
theorem dX6_tales_59 : decode cX6_tales 59 = .ok (.ior, 1) := by decide +kernel
theorem dX6_tales_60 : decode cX6_tales 60 = .ok (.istore_n 2, 1) := by decide +kernel
theorem dX6_tales_61 : decode cX6_tales 61 = .ok (.iinc 3 1, 3) := by decide +kernel
theorem dX6_tales_64 : decode cX6_tales 64 = .ok (.goto (-46), 3) := by decide +kernel
theorem dX6_tales_67 : decode cX6_tales 67 = .ok (.iload_n 2, 1) := by decide +kernel
theorem dX6_tales_68 : decode cX6_tales 68 = .ok (.ireturn, 1) := by decide +kernel
theorem dX6_older_0 : decode cX6_older 0 = .ok (.iload_n 0, 1) := by decide +kernel
theorem dX6_older_1 : decode cX6_older 1 = .ok (.iload_n 1, 1) := by decide +kernel
theorem dX6_older_2 : decode cX6_older 2 = .ok (.iadd, 1) := by decide +kernel
theorem dX6_older_3 : decode cX6_older 3 = .ok (.bipush 99, 2) := by decide +kernel
theorem dX6_older_5 : decode cX6_older 5 = .ok (.if_icmp .le 8, 3) := by decide +kernel
theorem dX6_older_8 : decode cX6_older 8 = .ok (.bipush 99, 2) := by decide +kernel
theorem dX6_older_10 : decode cX6_older 10 = .ok (.goto 6, 3) := by decide +kernel
theorem dX6_older_13 : decode cX6_older 13 = .ok (.iload_n 0, 1) := by decide +kernel
theorem dX6_older_14 : decode cX6_older 14 = .ok (.iload_n 1, 1) := by decide +kernel
theorem dX6_older_15 : decode cX6_older 15 = .ok (.iadd, 1) := by decide +kernel
theorem dX6_older_16 : decode cX6_older 16 = .ok (.ireturn, 1) := by decide +kernel
set_option maxRecDepth 20000 in
theorem ggX6_years_X6_in : GoodIn wsX6_years wsX6_in := goodIn_r _ [6] (by decide +kernel) (by decide +kernel)
set_option maxRecDepth 20000 in
theorem gX6_years_X6_in : GoodIn wsX6_years (va_wsS RX6 57 yX6_in wsX6_in) := goodIn_app (goodIn_of _ (by decide +kernel)) ggX6_years_X6_in
set_option maxRecDepth 20000 in
theorem ggX6_years_X6_no : GoodIn wsX6_years wsX6_no := goodIn_r _ [10, 11, 12, 40, 41, 42, 43, 44, 45, 46, 47, 48, 49, 50, 51, 52, 53, 54, 55, 56, 57, 58, 59] (by decide +kernel) (by decide +kernel)
set_option maxRecDepth 20000 in
theorem gX6_years_X6_no : GoodIn wsX6_years (wsV RX6 68 RX6 yX6_no wsX6_no) := goodIn_app (goodIn_of _ (by decide +kernel)) ggX6_years_X6_no
set_option maxRecDepth 20000 in
theorem ggX6_years_X6_long_ : GoodIn wsX6_years wsX6_long_ := goodIn_r _ [16, 1, 40, 41, 42, 43, 44, 45, 46, 47, 48, 49, 50, 51, 52, 53, 54, 55, 56, 57, 58, 59] (by decide +kernel) (by decide +kernel)
set_option maxRecDepth 20000 in
theorem gX6_years_X6_long_ : GoodIn wsX6_years (wsV RX6 105 RX6 yX6_long_ wsX6_long_) := goodIn_app (goodIn_of _ (by decide +kernel)) ggX6_years_X6_long_
set_option maxRecDepth 20000 in
theorem ggX6_years_X6_counts : GoodIn wsX6_years wsX6_counts := goodIn_r _ [20, 2, 21, 22, 23, 24, 5, 25, 1, 26, 27, 28, 29, 30, 31, 32, 33, 34, 35, 36, 40, 41, 42, 43, 44, 45, 46, 47, 48, 49, 50, 51, 52, 53, 54, 55, 56, 57, 58, 59] (by decide +kernel) (by decide +kernel)
set_option maxRecDepth 20000 in
theorem gX6_years_X6_counts : GoodIn wsX6_years (wsV RX6 115 RX6 yX6_counts wsX6_counts) := goodIn_app (goodIn_of _ (by decide +kernel)) ggX6_years_X6_counts
set_option maxRecDepth 20000 in
theorem ggX6_years_X6_older : GoodIn wsX6_years wsX6_older := goodIn_r _ [39] (by decide +kernel) (by decide +kernel)
set_option maxRecDepth 20000 in
theorem gX6_years_X6_older : GoodIn wsX6_years (va_wsS RX6 147 yX6_older wsX6_older) := goodIn_app (goodIn_of _ (by decide +kernel)) ggX6_years_X6_older
theorem dX6_years_0 : decode cX6_years 0 = .ok (.iload_n 1, 1) := by decide +kernel
theorem dX6_years_1 : decode cX6_years 1 = .ok (.iconst 1, 1) := by decide +kernel
theorem dX6_years_2 : decode cX6_years 2 = .ok (.bipush 60, 2) := by decide +kernel
theorem dX6_years_4 : decode cX6_years 4 = .ok (.invokestatic 57, 3) := by decide +kernel
theorem dX6_years_7 : decode cX6_years 7 = .ok (.ifCond .ne 9, 3) := by decide +kernel
theorem dX6_years_10 : decode cX6_years 10 = .ok (.aload_n 0, 1) := by decide +kernel
theorem dX6_years_11 : decode cX6_years 11 = .ok (.iconst 0, 1) := by decide +kernel
theorem dX6_years_12 : decode cX6_years 12 = .ok (.invokevirtual 68, 3) := by decide +kernel
theorem dX6_years_15 : decode cX6_years 15 = .ok (.ireturn, 1) := by decide +kernel
theorem dX6_years_16 : decode cX6_years 16 = .ok (.aload_n 0, 1) := by decide +kernel
theorem dX6_years_17 : decode cX6_years 17 = .ok (.getfield 9, 3) := by decide +kernel
theorem dX6_years_20 : decode cX6_years 20 = .ok (.iconst 0, 1) := by decide +kernel
theorem dX6_years_21 : decode cX6_years 21 = .ok (.iaload, 1) := by decide +kernel
theorem dX6_years_22 : decode cX6_years 22 = .ok (.iload_n 1, 1) := by decide +kernel
theorem dX6_years_23 : decode cX6_years 23 = .ok (.iadd, 1) := by decide +kernel
theorem dX6_years_24 : decode cX6_years 24 = .ok (.sipush 999, 3) := by decide +kernel
theorem dX6_years_27 : decode cX6_years 27 = .ok (.if_icmp .le 9, 3) := by decide +kernel
theorem dX6_years_30 : decode cX6_years 30 = .ok (.aload_n 0, 1) := by decide +kernel
theorem dX6_years_31 : decode cX6_years 31 = .ok (.iconst 4, 1) := by decide +kernel
theorem dX6_years_32 : decode cX6_years 32 = .ok (.invokevirtual 68, 3) := by decide +kernel
theorem dX6_years_35 : decode cX6_years 35 = .ok (.ireturn, 1) := by decide +kernel
theorem dX6_years_36 : decode cX6_years 36 = .ok (.iconst 0, 1) := by decide +kernel
theorem dX6_years_37 : decode cX6_years 37 = .ok (.istore_n 2, 1) := by decide +kernel
theorem dX6_years_38 : decode cX6_years 38 = .ok (.iconst 0, 1) := by decide +kernel
theorem dX6_years_39 : decode cX6_years 39 = .ok (.istore_n 3, 1) := by decide +kernel
theorem dX6_years_40 : decode cX6_years 40 = .ok (.iload_n 3, 1) := by decide +kernel
theorem dX6_years_41 : decode cX6_years 41 = .ok (.aload_n 0, 1) := by decide +kernel
theorem dX6_years_42 : decode cX6_years 42 = .ok (.getfield 9, 3) := by decide +kernel
theorem dX6_years_45 : decode cX6_years 45 = .ok (.iconst 2, 1) := by decide +kernel
theorem dX6_years_46 : decode cX6_years 46 = .ok (.iaload, 1) := by decide +kernel
theorem dX6_years_47 : decode cX6_years 47 = .ok (.if_icmp .ge 93, 3) := by decide +kernel
theorem dX6_years_50 : decode cX6_years 50 = .ok (.aload_n 0, 1) := by decide +kernel
theorem dX6_years_51 : decode cX6_years 51 = .ok (.iload_n 3, 1) := by decide +kernel
theorem dX6_years_52 : decode cX6_years 52 = .ok (.aload_n 0, 1) := by decide +kernel
theorem dX6_years_53 : decode cX6_years 53 = .ok (.iload_n 3, 1) := by decide +kernel
theorem dX6_years_54 : decode cX6_years 54 = .ok (.invokevirtual 105, 3) := by decide +kernel
theorem dX6_years_57 : decode cX6_years 57 = .ok (.invokevirtual 115, 3) := by decide +kernel
theorem dX6_years_60 : decode cX6_years 60 = .ok (.iconst 0, 1) := by decide +kernel
theorem dX6_years_61 : decode cX6_years 61 = .ok (.istore 4, 2) := by decide +kernel
theorem dX6_years_63 : decode cX6_years 63 = .ok (.iload 4, 2) := by decide +kernel
theorem dX6_years_65 : decode cX6_years 65 = .ok (.aload_n 0, 1) := by decide +kernel
theorem dX6_years_66 : decode cX6_years 66 = .ok (.getfield 9, 3) := by decide +kernel
theorem dX6_years_69 : decode cX6_years 69 = .ok (.iconst 3, 1) := by decide +kernel
theorem dX6_years_70 : decode cX6_years 70 = .ok (.iaload, 1) := by decide +kernel
theorem dX6_years_71 : decode cX6_years 71 = .ok (.if_icmp .ge 63, 3) := by decide +kernel
theorem dX6_years_74 : decode cX6_years 74 = .ok (.iload_n 2, 1) := by decide +kernel
theorem dX6_years_75 : decode cX6_years 75 = .ok (.aload_n 0, 1) := by decide +kernel
theorem dX6_years_76 : decode cX6_years 76 = .ok (.getfield 22, 3) := by decide +kernel
theorem dX6_years_79 : decode cX6_years 79 = .ok (.aload_n 0, 1) := by decide +kernel
theorem dX6_years_80 : decode cX6_years 80 = .ok (.getfield 9, 3) := by decide +kernel
theorem dX6_years_83 : decode cX6_years 83 = .ok (.sipush 156, 3) := by decide +kernel
theorem dX6_years_86 : decode cX6_years 86 = .ok (.iload 4, 2) := by decide +kernel
theorem dX6_years_88 : decode cX6_years 88 = .ok (.iadd, 1) := by decide +kernel
theorem dX6_years_89 : decode cX6_years 89 = .ok (.iaload, 1) := by decide +kernel
theorem dX6_years_90 : decode cX6_years 90 = .ok (.laload, 1) := by decide +kernel
theorem dX6_years_91 : decode cX6_years 91 = .ok (.lconst 0, 1) := by decide +kernel
theorem dX6_years_92 : decode cX6_years 92 = .ok (.lcmp, 1) := by decide +kernel
theorem dX6_years_93 : decode cX6_years 93 = .ok (.ifCond .le 32, 3) := by decide +kernel
theorem dX6_years_96 : decode cX6_years 96 = .ok (.aload_n 0, 1) := by decide +kernel
theorem dX6_years_97 : decode cX6_years 97 = .ok (.getfield 22, 3) := by decide +kernel
theorem dX6_years_100 : decode cX6_years 100 = .ok (.aload_n 0, 1) := by decide +kernel
theorem dX6_years_101 : decode cX6_years 101 = .ok (.getfield 9, 3) := by decide +kernel
theorem dX6_years_104 : decode cX6_years 104 = .ok (.sipush 156, 3) := by decide +kernel
theorem dX6_years_107 : decode cX6_years 107 = .ok (.iload 4, 2) := by decide +kernel
theorem dX6_years_109 : decode cX6_years 109 = .ok (.iadd, 1) := by decide +kernel
theorem dX6_years_110 : decode cX6_years 110 = .ok (.iaload, 1) := by decide +kernel
theorem dX6_years_111 : decode cX6_years 111 = .ok (.iload_n 1, 1) := by decide +kernel
theorem dX6_years_112 : decode cX6_years 112 = .ok (.invokestatic 147, 3) := by decide +kernel
theorem dX6_years_115 : decode cX6_years 115 = .ok (.laload, 1) := by decide +kernel
theorem dX6_years_116 : decode cX6_years 116 = .ok (.lconst 0, 1) := by decide +kernel
theorem dX6_years_117 : decode cX6_years 117 = .ok (.lcmp, 1) := by decide +kernel
theorem dX6_years_118 : decode cX6_years 118 = .ok (.ifCond .ne 7, 3) := by decide +kernel
theorem dX6_years_121 : decode cX6_years 121 = .ok (.iconst 1, 1) := by decide +kernel
theorem dX6_years_122 : decode cX6_years 122 = .ok (.goto 4, 3) := by decide +kernel
theorem dX6_years_125 : decode cX6_years 125 = .ok (.iconst 0, 1) := by decide +kernel
theorem dX6_years_126 : decode cX6_years 126 = .ok (.iadd, 1) := by decide +kernel
theorem dX6_years_127 : decode cX6_years 127 = .ok (.istore_n 2, 1) := by decide +kernel
theorem dX6_years_128 : decode cX6_years 128 = .ok (.iinc 4 1, 3) := by decide +kernel
theorem dX6_years_131 : decode cX6_years 131 = .ok (.goto (-68), 3) := by decide +kernel
theorem dX6_years_134 : decode cX6_years 134 = .ok (.iinc 3 1, 3) := by decide +kernel
theorem dX6_years_137 : decode cX6_years 137 = .ok (.goto (-97), 3) := by decide +kernel
theorem dX6_years_140 : decode cX6_years 140 = .ok (.iconst 0, 1) := by decide +kernel
theorem dX6_years_141 : decode cX6_years 141 = .ok (.istore_n 3, 1) := by decide +kernel
theorem dX6_years_142 : decode cX6_years 142 = .ok (.iload_n 3, 1) := by decide +kernel
theorem dX6_years_143 : decode cX6_years 143 = .ok (.aload_n 0, 1) := by decide +kernel
theorem dX6_years_144 : decode cX6_years 144 = .ok (.getfield 9, 3) := by decide +kernel
theorem dX6_years_147 : decode cX6_years 147 = .ok (.iconst 3, 1) := by decide +kernel
theorem dX6_years_148 : decode cX6_years 148 = .ok (.iaload, 1) := by decide +kernel
theorem dX6_years_149 : decode cX6_years 149 = .ok (.if_icmp .ge 33, 3) := by decide +kernel
theorem dX6_years_152 : decode cX6_years 152 = .ok (.aload_n 0, 1) := by decide +kernel
theorem dX6_years_153 : decode cX6_years 153 = .ok (.getfield 9, 3) := by decide +kernel
theorem dX6_years_156 : decode cX6_years 156 = .ok (.sipush 156, 3) := by decide +kernel
theorem dX6_years_159 : decode cX6_years 159 = .ok (.iload_n 3, 1) := by decide +kernel
theorem dX6_years_160 : decode cX6_years 160 = .ok (.iadd, 1) := by decide +kernel
theorem dX6_years_161 : decode cX6_years 161 = .ok (.aload_n 0, 1) := by decide +kernel
theorem dX6_years_162 : decode cX6_years 162 = .ok (.getfield 9, 3) := by decide +kernel
theorem dX6_years_165 : decode cX6_years 165 = .ok (.sipush 156, 3) := by decide +kernel
theorem dX6_years_168 : decode cX6_years 168 = .ok (.iload_n 3, 1) := by decide +kernel
theorem dX6_years_169 : decode cX6_years 169 = .ok (.iadd, 1) := by decide +kernel
theorem dX6_years_170 : decode cX6_years 170 = .ok (.iaload, 1) := by decide +kernel
theorem dX6_years_171 : decode cX6_years 171 = .ok (.iload_n 1, 1) := by decide +kernel
theorem dX6_years_172 : decode cX6_years 172 = .ok (.invokestatic 147, 3) := by decide +kernel
theorem dX6_years_175 : decode cX6_years 175 = .ok (.iastore, 1) := by decide +kernel
theorem dX6_years_176 : decode cX6_years 176 = .ok (.iinc 3 1, 3) := by decide +kernel
theorem dX6_years_179 : decode cX6_years 179 = .ok (.goto (-37), 3) := by decide +kernel
theorem dX6_years_182 : decode cX6_years 182 = .ok (.aload_n 0, 1) := by decide +kernel
theorem dX6_years_183 : decode cX6_years 183 = .ok (.getfield 9, 3) := by decide +kernel
theorem dX6_years_186 : decode cX6_years 186 = .ok (.iconst 0, 1) := by decide +kernel
theorem dX6_years_187 : decode cX6_years 187 = .ok (.dup2, 1) := by decide +kernel
theorem dX6_years_188 : decode cX6_years 188 = .ok (.iaload, 1) := by decide +kernel
theorem dX6_years_189 : decode cX6_years 189 = .ok (.iload_n 1, 1) := by decide +kernel
theorem dX6_years_190 : decode cX6_years 190 = .ok (.iadd, 1) := by decide +kernel
theorem dX6_years_191 : decode cX6_years 191 = .ok (.iastore, 1) := by decide +kernel
theorem dX6_years_192 : decode cX6_years 192 = .ok (.iload_n 2, 1) := by decide +kernel
theorem dX6_years_193 : decode cX6_years 193 = .ok (.ireturn, 1) := by decide +kernel
set_option maxRecDepth 20000 in
theorem ggX6_areTold_X6_isTale : GoodIn wsX6_areTold wsX6_isTale := goodIn_r _ [5, 6, 7, 8, 4, 9, 14, 15, 16, 17, 18, 19, 20, 21, 22, 23, 24, 25, 26, 27, 28, 29, 30, 31, 32, 33] (by decide +kernel) (by decide +kernel)
set_option maxRecDepth 20000 in
theorem gX6_areTold_X6_isTale : GoodIn wsX6_areTold (wsV RX6 102 RX6 yX6_isTale wsX6_isTale) := goodIn_app (goodIn_of _ (by decide +kernel)) ggX6_areTold_X6_isTale
set_option maxRecDepth 20000 in
theorem ggX6_areTold_X6_isHearer : GoodIn wsX6_areTold wsX6_isHearer := goodIn_r _ [13, 6, 7, 8, 4, 9, 14, 15, 16, 17, 18, 19, 20, 21, 22, 23, 24, 25, 26, 27, 28, 29, 30, 31, 32, 33] (by decide +kernel) (by decide +kernel)
set_option maxRecDepth 20000 in
theorem gX6_areTold_X6_isHearer : GoodIn wsX6_areTold (wsV RX6 138 RX6 yX6_isHearer wsX6_isHearer) := goodIn_app (goodIn_of _ (by decide +kernel)) ggX6_areTold_X6_isHearer
theorem dX6_areTold_0 : decode cX6_areTold 0 = .ok (.aload_n 0, 1) := by decide +kernel
theorem dX6_areTold_1 : decode cX6_areTold 1 = .ok (.iload_n 1, 1) := by decide +kernel
theorem dX6_areTold_2 : decode cX6_areTold 2 = .ok (.invokevirtual 102, 3) := by decide +kernel
theorem dX6_areTold_5 : decode cX6_areTold 5 = .ok (.ifCond .eq 15, 3) := by decide +kernel
theorem dX6_areTold_8 : decode cX6_areTold 8 = .ok (.aload_n 0, 1) := by decide +kernel
theorem dX6_areTold_9 : decode cX6_areTold 9 = .ok (.iload_n 2, 1) := by decide +kernel
theorem dX6_areTold_10 : decode cX6_areTold 10 = .ok (.invokevirtual 138, 3) := by decide +kernel
theorem dX6_areTold_13 : decode cX6_areTold 13 = .ok (.ifCond .eq 7, 3) := by decide +kernel
theorem dX6_areTold_16 : decode cX6_areTold 16 = .ok (.iconst 1, 1) := by decide +kernel
theorem dX6_areTold_17 : decode cX6_areTold 17 = .ok (.goto 4, 3) := by decide +kernel
theorem dX6_areTold_20 : decode cX6_areTold 20 = .ok (.iconst 0, 1) := by decide +kernel
theorem dX6_areTold_21 : decode cX6_areTold 21 = .ok (.ireturn, 1) := by decide +kernel
set_option maxRecDepth 20000 in
theorem ggX6_firstYear_X6_long_ : GoodIn wsX6_firstYear wsX6_long_ := goodIn_r _ [7, 2, 31, 32, 33, 34, 35, 36, 37, 38, 39, 40, 41, 42, 43, 44, 45, 46, 47, 48, 49, 50] (by decide +kernel) (by decide +kernel)
set_option maxRecDepth 20000 in
theorem gX6_firstYear_X6_long_ : GoodIn wsX6_firstYear (wsV RX6 105 RX6 yX6_long_ wsX6_long_) := goodIn_app (goodIn_of _ (by decide +kernel)) ggX6_firstYear_X6_long_
set_option maxRecDepth 20000 in
theorem ggX6_firstYear_X6_counts : GoodIn wsX6_firstYear wsX6_counts := goodIn_r _ [11, 1, 12, 13, 14, 15, 6, 16, 2, 17, 18, 19, 20, 21, 22, 23, 24, 25, 26, 27, 31, 32, 33, 34, 35, 36, 37, 38, 39, 40, 41, 42, 43, 44, 45, 46, 47, 48, 49, 50] (by decide +kernel) (by decide +kernel)
set_option maxRecDepth 20000 in
theorem gX6_firstYear_X6_counts : GoodIn wsX6_firstYear (wsV RX6 115 RX6 yX6_counts wsX6_counts) := goodIn_app (goodIn_of _ (by decide +kernel)) ggX6_firstYear_X6_counts
set_option maxRecDepth 20000 in
theorem ggX6_firstYear_X6_older : GoodIn wsX6_firstYear wsX6_older := goodIn_r _ [30] (by decide +kernel) (by decide +kernel)
set_option maxRecDepth 20000 in
theorem gX6_firstYear_X6_older : GoodIn wsX6_firstYear (va_wsS RX6 147 yX6_older wsX6_older) := goodIn_app (goodIn_of _ (by decide +kernel)) ggX6_firstYear_X6_older
theorem dX6_firstYear_0 : decode cX6_firstYear 0 = .ok (.aload_n 0, 1) := by decide +kernel
theorem dX6_firstYear_1 : decode cX6_firstYear 1 = .ok (.iload_n 1, 1) := by decide +kernel
theorem dX6_firstYear_2 : decode cX6_firstYear 2 = .ok (.aload_n 0, 1) := by decide +kernel
theorem dX6_firstYear_3 : decode cX6_firstYear 3 = .ok (.iload_n 1, 1) := by decide +kernel
theorem dX6_firstYear_4 : decode cX6_firstYear 4 = .ok (.invokevirtual 105, 3) := by decide +kernel
theorem dX6_firstYear_7 : decode cX6_firstYear 7 = .ok (.invokevirtual 115, 3) := by decide +kernel
theorem dX6_firstYear_10 : decode cX6_firstYear 10 = .ok (.iconst 0, 1) := by decide +kernel
theorem dX6_firstYear_11 : decode cX6_firstYear 11 = .ok (.istore 4, 2) := by decide +kernel
theorem dX6_firstYear_13 : decode cX6_firstYear 13 = .ok (.iload 4, 2) := by decide +kernel
theorem dX6_firstYear_15 : decode cX6_firstYear 15 = .ok (.bipush 99, 2) := by decide +kernel
theorem dX6_firstYear_17 : decode cX6_firstYear 17 = .ok (.if_icmp .gt 43, 3) := by decide +kernel
theorem dX6_firstYear_20 : decode cX6_firstYear 20 = .ok (.aload_n 0, 1) := by decide +kernel
theorem dX6_firstYear_21 : decode cX6_firstYear 21 = .ok (.getfield 22, 3) := by decide +kernel
theorem dX6_firstYear_24 : decode cX6_firstYear 24 = .ok (.aload_n 0, 1) := by decide +kernel
theorem dX6_firstYear_25 : decode cX6_firstYear 25 = .ok (.getfield 9, 3) := by decide +kernel
theorem dX6_firstYear_28 : decode cX6_firstYear 28 = .ok (.sipush 156, 3) := by decide +kernel
theorem dX6_firstYear_31 : decode cX6_firstYear 31 = .ok (.iload_n 2, 1) := by decide +kernel
theorem dX6_firstYear_32 : decode cX6_firstYear 32 = .ok (.iadd, 1) := by decide +kernel
theorem dX6_firstYear_33 : decode cX6_firstYear 33 = .ok (.iaload, 1) := by decide +kernel
theorem dX6_firstYear_34 : decode cX6_firstYear 34 = .ok (.iload 4, 2) := by decide +kernel
theorem dX6_firstYear_36 : decode cX6_firstYear 36 = .ok (.invokestatic 147, 3) := by decide +kernel
theorem dX6_firstYear_39 : decode cX6_firstYear 39 = .ok (.laload, 1) := by decide +kernel
theorem dX6_firstYear_40 : decode cX6_firstYear 40 = .ok (.lconst 0, 1) := by decide +kernel
theorem dX6_firstYear_41 : decode cX6_firstYear 41 = .ok (.lcmp, 1) := by decide +kernel
theorem dX6_firstYear_42 : decode cX6_firstYear 42 = .ok (.ifCond .le 7, 3) := by decide +kernel
theorem dX6_firstYear_45 : decode cX6_firstYear 45 = .ok (.iconst 1, 1) := by decide +kernel
theorem dX6_firstYear_46 : decode cX6_firstYear 46 = .ok (.goto 4, 3) := by decide +kernel
theorem dX6_firstYear_49 : decode cX6_firstYear 49 = .ok (.iconst 0, 1) := by decide +kernel
theorem dX6_firstYear_50 : decode cX6_firstYear 50 = .ok (.iload_n 3, 1) := by decide +kernel
theorem dX6_firstYear_51 : decode cX6_firstYear 51 = .ok (.if_icmp .eq 9, 3) := by decide +kernel
theorem dX6_firstYear_54 : decode cX6_firstYear 54 = .ok (.iinc 4 1, 3) := by decide +kernel
theorem dX6_firstYear_57 : decode cX6_firstYear 57 = .ok (.goto (-44), 3) := by decide +kernel
theorem dX6_firstYear_60 : decode cX6_firstYear 60 = .ok (.iload 4, 2) := by decide +kernel
theorem dX6_firstYear_62 : decode cX6_firstYear 62 = .ok (.ireturn, 1) := by decide +kernel
set_option maxRecDepth 20000 in
theorem ggX6_when_X6_areTold : GoodIn wsX6_when wsX6_areTold := goodIn_r _ [5, 6, 7, 8, 4, 9, 10, 11, 12, 13, 14, 15, 16, 17, 56, 57, 58, 59, 60, 61, 62, 63, 64, 65, 66, 67, 68, 69, 70, 71, 72, 73, 74, 75] (by decide +kernel) (by decide +kernel)
set_option maxRecDepth 20000 in
theorem gX6_when_X6_areTold : GoodIn wsX6_when (wsV RX6 150 RX6 yX6_areTold wsX6_areTold) := goodIn_app (goodIn_of _ (by decide +kernel)) ggX6_when_X6_areTold
set_option maxRecDepth 20000 in
theorem ggX6_when_X6_no : GoodIn wsX6_when wsX6_no := goodIn_r _ [21, 22, 23, 56, 57, 58, 59, 60, 61, 62, 63, 64, 65, 66, 67, 68, 69, 70, 71, 72, 73, 74, 75] (by decide +kernel) (by decide +kernel)
set_option maxRecDepth 20000 in
theorem gX6_when_X6_no : GoodIn wsX6_when (wsV RX6 68 RX6 yX6_no wsX6_no) := goodIn_app (goodIn_of _ (by decide +kernel)) ggX6_when_X6_no
set_option maxRecDepth 20000 in
theorem ggX6_when_X6_firstYear : GoodIn wsX6_when wsX6_firstYear := goodIn_r _ [27, 28, 10, 29, 30, 31, 4, 32, 33, 34, 35, 36, 37, 38, 39, 40, 41, 42, 43, 44, 45, 46, 47, 48, 49, 50, 51, 52, 53, 54, 55, 56, 57, 58, 59, 60, 61, 62, 63, 64, 65, 66, 67, 68, 69, 70, 71, 72, 73, 74, 75] (by decide +kernel) (by decide +kernel)
set_option maxRecDepth 20000 in
theorem gX6_when_X6_firstYear : GoodIn wsX6_when (wsV RX6 153 RX6 yX6_firstYear wsX6_firstYear) := goodIn_app (goodIn_of _ (by decide +kernel)) ggX6_when_X6_firstYear
theorem dX6_when_0 : decode cX6_when 0 = .ok (.aload_n 0, 1) := by decide +kernel
theorem dX6_when_1 : decode cX6_when 1 = .ok (.iload_n 1, 1) := by decide +kernel
theorem dX6_when_2 : decode cX6_when 2 = .ok (.iload_n 2, 1) := by decide +kernel
theorem dX6_when_3 : decode cX6_when 3 = .ok (.invokevirtual 150, 3) := by decide +kernel
theorem dX6_when_6 : decode cX6_when 6 = .ok (.ifCond .ne 9, 3) := by decide +kernel
theorem dX6_when_9 : decode cX6_when 9 = .ok (.aload_n 0, 1) := by decide +kernel
theorem dX6_when_10 : decode cX6_when 10 = .ok (.iconst 0, 1) := by decide +kernel
theorem dX6_when_11 : decode cX6_when 11 = .ok (.invokevirtual 68, 3) := by decide +kernel
theorem dX6_when_14 : decode cX6_when 14 = .ok (.ireturn, 1) := by decide +kernel
theorem dX6_when_15 : decode cX6_when 15 = .ok (.aload_n 0, 1) := by decide +kernel
theorem dX6_when_16 : decode cX6_when 16 = .ok (.iload_n 1, 1) := by decide +kernel
theorem dX6_when_17 : decode cX6_when 17 = .ok (.iload_n 2, 1) := by decide +kernel
theorem dX6_when_18 : decode cX6_when 18 = .ok (.iconst 1, 1) := by decide +kernel
theorem dX6_when_19 : decode cX6_when 19 = .ok (.invokevirtual 153, 3) := by decide +kernel
theorem dX6_when_22 : decode cX6_when 22 = .ok (.istore_n 3, 1) := by decide +kernel
theorem dX6_when_23 : decode cX6_when 23 = .ok (.iload_n 3, 1) := by decide +kernel
theorem dX6_when_24 : decode cX6_when 24 = .ok (.bipush 99, 2) := by decide +kernel
theorem dX6_when_26 : decode cX6_when 26 = .ok (.if_icmp .le 11, 3) := by decide +kernel
theorem dX6_when_29 : decode cX6_when 29 = .ok (.aload_n 0, 1) := by decide +kernel
theorem dX6_when_30 : decode cX6_when 30 = .ok (.iconst 3, 1) := by decide +kernel
theorem dX6_when_31 : decode cX6_when 31 = .ok (.invokevirtual 68, 3) := by decide +kernel
theorem dX6_when_34 : decode cX6_when 34 = .ok (.goto 4, 3) := by decide +kernel
theorem dX6_when_37 : decode cX6_when 37 = .ok (.iload_n 3, 1) := by decide +kernel
theorem dX6_when_38 : decode cX6_when 38 = .ok (.ireturn, 1) := by decide +kernel
set_option maxRecDepth 20000 in
theorem ggX6_till_X6_areTold : GoodIn wsX6_till wsX6_areTold := goodIn_r _ [5, 6, 7, 8, 4, 9, 10, 11, 12, 13, 14, 15, 16, 17, 56, 57, 58, 59, 60, 61, 62, 63, 64, 65, 66, 67, 68, 69, 70, 71, 72, 73, 74, 75] (by decide +kernel) (by decide +kernel)
set_option maxRecDepth 20000 in
theorem gX6_till_X6_areTold : GoodIn wsX6_till (wsV RX6 150 RX6 yX6_areTold wsX6_areTold) := goodIn_app (goodIn_of _ (by decide +kernel)) ggX6_till_X6_areTold
set_option maxRecDepth 20000 in
theorem ggX6_till_X6_firstYear : GoodIn wsX6_till wsX6_firstYear := goodIn_r _ [21, 22, 10, 23, 24, 25, 4, 26, 27, 28, 29, 30, 31, 32, 33, 34, 35, 36, 37, 38, 39, 40, 41, 42, 43, 44, 45, 46, 47, 48, 49, 56, 57, 58, 59, 60, 61, 62, 63, 64, 65, 66, 67, 68, 69, 70, 71, 72, 73, 74, 75] (by decide +kernel) (by decide +kernel)
set_option maxRecDepth 20000 in
theorem gX6_till_X6_firstYear : GoodIn wsX6_till (wsV RX6 153 RX6 yX6_firstYear wsX6_firstYear) := goodIn_app (goodIn_of _ (by decide +kernel)) ggX6_till_X6_firstYear
set_option maxRecDepth 20000 in
theorem ggX6_till_X6_no : GoodIn wsX6_till wsX6_no := goodIn_r _ [53, 54, 55, 56, 57, 58, 59, 60, 61, 62, 63, 64, 65, 66, 67, 68, 69, 70, 71, 72, 73, 74, 75] (by decide +kernel) (by decide +kernel)
set_option maxRecDepth 20000 in
theorem gX6_till_X6_no : GoodIn wsX6_till (wsV RX6 68 RX6 yX6_no wsX6_no) := goodIn_app (goodIn_of _ (by decide +kernel)) ggX6_till_X6_no
theorem dX6_till_0 : decode cX6_till 0 = .ok (.aload_n 0, 1) := by decide +kernel
theorem dX6_till_1 : decode cX6_till 1 = .ok (.iload_n 1, 1) := by decide +kernel
theorem dX6_till_2 : decode cX6_till 2 = .ok (.iload_n 2, 1) := by decide +kernel
theorem dX6_till_3 : decode cX6_till 3 = .ok (.invokevirtual 150, 3) := by decide +kernel
theorem dX6_till_6 : decode cX6_till 6 = .ok (.ifCond .eq 13, 3) := by decide +kernel
theorem dX6_till_9 : decode cX6_till 9 = .ok (.aload_n 0, 1) := by decide +kernel
theorem dX6_till_10 : decode cX6_till 10 = .ok (.iload_n 1, 1) := by decide +kernel
theorem dX6_till_11 : decode cX6_till 11 = .ok (.iload_n 2, 1) := by decide +kernel
theorem dX6_till_12 : decode cX6_till 12 = .ok (.iconst 0, 1) := by decide +kernel
theorem dX6_till_13 : decode cX6_till 13 = .ok (.invokevirtual 153, 3) := by decide +kernel
theorem dX6_till_16 : decode cX6_till 16 = .ok (.goto 8, 3) := by decide +kernel
theorem dX6_till_19 : decode cX6_till 19 = .ok (.aload_n 0, 1) := by decide +kernel
theorem dX6_till_20 : decode cX6_till 20 = .ok (.iconst 0, 1) := by decide +kernel
theorem dX6_till_21 : decode cX6_till 21 = .ok (.invokevirtual 68, 3) := by decide +kernel
theorem dX6_till_24 : decode cX6_till 24 = .ok (.ireturn, 1) := by decide +kernel
set_option maxRecDepth 20000 in
theorem ggX6_heard_X6_areTold : GoodIn wsX6_heard wsX6_areTold := goodIn_r _ [7, 8, 9, 10, 6, 11, 2, 12, 13, 14, 15, 16, 17, 18, 65, 66, 67, 68, 69, 70, 71, 72, 73, 74, 75, 76, 77, 78, 79, 80, 81, 82, 83, 84] (by decide +kernel) (by decide +kernel)
set_option maxRecDepth 20000 in
theorem gX6_heard_X6_areTold : GoodIn wsX6_heard (wsV RX6 150 RX6 yX6_areTold wsX6_areTold) := goodIn_app (goodIn_of _ (by decide +kernel)) ggX6_heard_X6_areTold
set_option maxRecDepth 20000 in
theorem ggX6_heard_X6_isWords : GoodIn wsX6_heard wsX6_isWords := goodIn_r _ [21, 12, 13, 6, 14] (by decide +kernel) (by decide +kernel)
set_option maxRecDepth 20000 in
theorem gX6_heard_X6_isWords : GoodIn wsX6_heard (va_wsS RX6 118 yX6_isWords wsX6_isWords) := goodIn_app (goodIn_of _ (by decide +kernel)) ggX6_heard_X6_isWords
set_option maxRecDepth 20000 in
theorem ggX6_heard_X6_no : GoodIn wsX6_heard wsX6_no := goodIn_r _ [25, 26, 27, 65, 66, 67, 68, 69, 70, 71, 72, 73, 74, 75, 76, 77, 78, 79, 80, 81, 82, 83, 84] (by decide +kernel) (by decide +kernel)
set_option maxRecDepth 20000 in
theorem gX6_heard_X6_no : GoodIn wsX6_heard (wsV RX6 68 RX6 yX6_no wsX6_no) := goodIn_app (goodIn_of _ (by decide +kernel)) ggX6_heard_X6_no
set_option maxRecDepth 20000 in
theorem ggX6_heard_X6_says : GoodIn wsX6_heard wsX6_says := goodIn_r _ [31, 32, 1, 33, 34, 35, 6, 36, 37, 38, 39, 40, 41, 2, 42, 43, 44, 45, 46, 47, 48, 49, 50, 51, 52, 53, 54, 55, 56, 57, 58, 59, 60, 61, 62, 63, 64, 65, 66, 67, 68, 69, 70, 71, 72, 73, 74, 75, 76, 77, 78, 79, 80, 81, 82, 83, 84] (by decide +kernel) (by decide +kernel)
set_option maxRecDepth 20000 in
theorem gX6_heard_X6_says : GoodIn wsX6_heard (wsV RX6 132 RX6 yX6_says wsX6_says) := goodIn_app (goodIn_of _ (by decide +kernel)) ggX6_heard_X6_says
set_option maxRecDepth 20000 in
theorem ggX6_heard_X6_long_ : GoodIn wsX6_heard wsX6_long_ := goodIn_r _ [41, 2, 65, 66, 67, 68, 69, 70, 71, 72, 73, 74, 75, 76, 77, 78, 79, 80, 81, 82, 83, 84] (by decide +kernel) (by decide +kernel)
set_option maxRecDepth 20000 in
theorem gX6_heard_X6_long_ : GoodIn wsX6_heard (wsV RX6 105 RX6 yX6_long_ wsX6_long_) := goodIn_app (goodIn_of _ (by decide +kernel)) ggX6_heard_X6_long_
theorem dX6_heard_0 : decode cX6_heard 0 = .ok (.aload_n 0, 1) := by decide +kernel
theorem dX6_heard_1 : decode cX6_heard 1 = .ok (.iload_n 1, 1) := by decide +kernel
theorem dX6_heard_2 : decode cX6_heard 2 = .ok (.iload_n 3, 1) := by decide +kernel
theorem dX6_heard_3 : decode cX6_heard 3 = .ok (.invokevirtual 150, 3) := by decide +kernel
theorem dX6_heard_6 : decode cX6_heard 6 = .ok (.ifCond .eq 10, 3) := by decide +kernel
theorem dX6_heard_9 : decode cX6_heard 9 = .ok (.iload_n 2, 1) := by decide +kernel
theorem dX6_heard_10 : decode cX6_heard 10 = .ok (.invokestatic 118, 3) := by decide +kernel
theorem dX6_heard_13 : decode cX6_heard 13 = .ok (.ifCond .ne 9, 3) := by decide +kernel
theorem dX6_heard_16 : decode cX6_heard 16 = .ok (.aload_n 0, 1) := by decide +kernel
theorem dX6_heard_17 : decode cX6_heard 17 = .ok (.iconst 0, 1) := by decide +kernel
theorem dX6_heard_18 : decode cX6_heard 18 = .ok (.invokevirtual 68, 3) := by decide +kernel
theorem dX6_heard_21 : decode cX6_heard 21 = .ok (.ireturn, 1) := by decide +kernel
theorem dX6_heard_22 : decode cX6_heard 22 = .ok (.aload_n 0, 1) := by decide +kernel
theorem dX6_heard_23 : decode cX6_heard 23 = .ok (.iload_n 1, 1) := by decide +kernel
theorem dX6_heard_24 : decode cX6_heard 24 = .ok (.iload_n 2, 1) := by decide +kernel
theorem dX6_heard_25 : decode cX6_heard 25 = .ok (.invokevirtual 132, 3) := by decide +kernel
theorem dX6_heard_28 : decode cX6_heard 28 = .ok (.ifCond .ne 9, 3) := by decide +kernel
theorem dX6_heard_31 : decode cX6_heard 31 = .ok (.aload_n 0, 1) := by decide +kernel
theorem dX6_heard_32 : decode cX6_heard 32 = .ok (.iconst 3, 1) := by decide +kernel
theorem dX6_heard_33 : decode cX6_heard 33 = .ok (.invokevirtual 68, 3) := by decide +kernel
theorem dX6_heard_36 : decode cX6_heard 36 = .ok (.ireturn, 1) := by decide +kernel
theorem dX6_heard_37 : decode cX6_heard 37 = .ok (.iconst 0, 1) := by decide +kernel
theorem dX6_heard_38 : decode cX6_heard 38 = .ok (.istore 4, 2) := by decide +kernel
theorem dX6_heard_40 : decode cX6_heard 40 = .ok (.iconst 0, 1) := by decide +kernel
theorem dX6_heard_41 : decode cX6_heard 41 = .ok (.istore 5, 2) := by decide +kernel
theorem dX6_heard_43 : decode cX6_heard 43 = .ok (.iload 5, 2) := by decide +kernel
theorem dX6_heard_45 : decode cX6_heard 45 = .ok (.aload_n 0, 1) := by decide +kernel
theorem dX6_heard_46 : decode cX6_heard 46 = .ok (.iload_n 1, 1) := by decide +kernel
theorem dX6_heard_47 : decode cX6_heard 47 = .ok (.invokevirtual 105, 3) := by decide +kernel
theorem dX6_heard_50 : decode cX6_heard 50 = .ok (.if_icmp .ge 44, 3) := by decide +kernel
theorem dX6_heard_53 : decode cX6_heard 53 = .ok (.iload 4, 2) := by decide +kernel
theorem dX6_heard_55 : decode cX6_heard 55 = .ok (.aload_n 0, 1) := by decide +kernel
theorem dX6_heard_56 : decode cX6_heard 56 = .ok (.getfield 32, 3) := by decide +kernel
theorem dX6_heard_59 : decode cX6_heard 59 = .ok (.iload 5, 2) := by decide +kernel
theorem dX6_heard_61 : decode cX6_heard 61 = .ok (.iaload, 1) := by decide +kernel
theorem dX6_heard_62 : decode cX6_heard 62 = .ok (.iadd, 1) := by decide +kernel
theorem dX6_heard_63 : decode cX6_heard 63 = .ok (.aload_n 0, 1) := by decide +kernel
theorem dX6_heard_64 : decode cX6_heard 64 = .ok (.getfield 9, 3) := by decide +kernel
theorem dX6_heard_67 : decode cX6_heard 67 = .ok (.sipush 156, 3) := by decide +kernel
theorem dX6_heard_70 : decode cX6_heard 70 = .ok (.iload_n 3, 1) := by decide +kernel
theorem dX6_heard_71 : decode cX6_heard 71 = .ok (.iadd, 1) := by decide +kernel
theorem dX6_heard_72 : decode cX6_heard 72 = .ok (.iaload, 1) := by decide +kernel
theorem dX6_heard_73 : decode cX6_heard 73 = .ok (.if_icmp .gt 21, 3) := by decide +kernel
theorem dX6_heard_76 : decode cX6_heard 76 = .ok (.iload 4, 2) := by decide +kernel
theorem dX6_heard_78 : decode cX6_heard 78 = .ok (.aload_n 0, 1) := by decide +kernel
theorem dX6_heard_79 : decode cX6_heard 79 = .ok (.getfield 32, 3) := by decide +kernel
theorem dX6_heard_82 : decode cX6_heard 82 = .ok (.iload 5, 2) := by decide +kernel
theorem dX6_heard_84 : decode cX6_heard 84 = .ok (.iaload, 1) := by decide +kernel
theorem dX6_heard_85 : decode cX6_heard 85 = .ok (.iadd, 1) := by decide +kernel
theorem dX6_heard_86 : decode cX6_heard 86 = .ok (.istore 4, 2) := by decide +kernel
theorem dX6_heard_88 : decode cX6_heard 88 = .ok (.iinc 5 1, 3) := by decide +kernel
theorem dX6_heard_91 : decode cX6_heard 91 = .ok (.goto (-48), 3) := by decide +kernel
theorem dX6_heard_94 : decode cX6_heard 94 = .ok (.iload 5, 2) := by decide +kernel
theorem dX6_heard_96 : decode cX6_heard 96 = .ok (.ireturn, 1) := by decide +kernel
theorem dX6_hearing_0 : decode cX6_hearing 0 = .ok (.iconst 0, 1) := by decide +kernel
theorem dX6_hearing_1 : decode cX6_hearing 1 = .ok (.istore_n 3, 1) := by decide +kernel
theorem dX6_hearing_2 : decode cX6_hearing 2 = .ok (.iconst 0, 1) := by decide +kernel
theorem dX6_hearing_3 : decode cX6_hearing 3 = .ok (.istore 4, 2) := by decide +kernel
theorem dX6_hearing_5 : decode cX6_hearing 5 = .ok (.iload 4, 2) := by decide +kernel
theorem dX6_hearing_7 : decode cX6_hearing 7 = .ok (.aload_n 0, 1) := by decide +kernel
theorem dX6_hearing_8 : decode cX6_hearing 8 = .ok (.getfield 9, 3) := by decide +kernel
theorem dX6_hearing_11 : decode cX6_hearing 11 = .ok (.iconst 3, 1) := by decide +kernel
theorem dX6_hearing_12 : decode cX6_hearing 12 = .ok (.iaload, 1) := by decide +kernel
theorem dX6_hearing_13 : decode cX6_hearing 13 = .ok (.if_icmp .ge 42, 3) := by decide +kernel
theorem dX6_hearing_16 : decode cX6_hearing 16 = .ok (.iload_n 3, 1) := by decide +kernel
theorem dX6_hearing_17 : decode cX6_hearing 17 = .ok (.iload_n 1, 1) := by decide +kernel
theorem dX6_hearing_18 : decode cX6_hearing 18 = .ok (.iload 4, 2) := by decide +kernel
theorem dX6_hearing_20 : decode cX6_hearing 20 = .ok (.ishr, 1) := by decide +kernel
theorem dX6_hearing_21 : decode cX6_hearing 21 = .ok (.iconst 1, 1) := by decide +kernel
theorem dX6_hearing_22 : decode cX6_hearing 22 = .ok (.iand, 1) := by decide +kernel
theorem dX6_hearing_23 : decode cX6_hearing 23 = .ok (.iconst 1, 1) := by decide +kernel
theorem dX6_hearing_24 : decode cX6_hearing 24 = .ok (.if_icmp .ne 22, 3) := by decide +kernel
theorem dX6_hearing_27 : decode cX6_hearing 27 = .ok (.iload_n 2, 1) := by decide +kernel
theorem dX6_hearing_28 : decode cX6_hearing 28 = .ok (.aload_n 0, 1) := by decide +kernel
theorem dX6_hearing_29 : decode cX6_hearing 29 = .ok (.getfield 9, 3) := by decide +kernel
theorem dX6_hearing_32 : decode cX6_hearing 32 = .ok (.sipush 156, 3) := by decide +kernel
theorem dX6_hearing_35 : decode cX6_hearing 35 = .ok (.iload 4, 2) := by decide +kernel
theorem dX6_hearing_37 : decode cX6_hearing 37 = .ok (.iadd, 1) := by decide +kernel
theorem dX6_hearing_38 : decode cX6_hearing 38 = .ok (.iaload, 1) := by decide +kernel
theorem dX6_hearing_39 : decode cX6_hearing 39 = .ok (.if_icmp .gt 7, 3) := by decide +kernel
theorem dX6_hearing_42 : decode cX6_hearing 42 = .ok (.iconst 1, 1) := by decide +kernel
theorem dX6_hearing_43 : decode cX6_hearing 43 = .ok (.goto 4, 3) := by decide +kernel
theorem dX6_hearing_46 : decode cX6_hearing 46 = .ok (.iconst 0, 1) := by decide +kernel
theorem dX6_hearing_47 : decode cX6_hearing 47 = .ok (.iadd, 1) := by decide +kernel
theorem dX6_hearing_48 : decode cX6_hearing 48 = .ok (.istore_n 3, 1) := by decide +kernel
theorem dX6_hearing_49 : decode cX6_hearing 49 = .ok (.iinc 4 1, 3) := by decide +kernel
theorem dX6_hearing_52 : decode cX6_hearing 52 = .ok (.goto (-47), 3) := by decide +kernel
theorem dX6_hearing_55 : decode cX6_hearing 55 = .ok (.iload_n 3, 1) := by decide +kernel
theorem dX6_hearing_56 : decode cX6_hearing 56 = .ok (.ireturn, 1) := by decide +kernel
set_option maxRecDepth 20000 in
theorem ggX6_hears_X6_long_ : GoodIn wsX6_hears wsX6_long_ := goodIn_r _ [7, 8, 28, 29, 30, 31, 32, 33, 34, 35, 36, 37, 38, 39, 40, 41, 42, 43, 44, 45, 46, 47] (by decide +kernel) (by decide +kernel)
set_option maxRecDepth 20000 in
theorem gX6_hears_X6_long_ : GoodIn wsX6_hears (wsV RX6 105 RX6 yX6_long_ wsX6_long_) := goodIn_app (goodIn_of _ (by decide +kernel)) ggX6_hears_X6_long_
set_option maxRecDepth 20000 in
theorem ggX6_hears_X6_nth : GoodIn wsX6_hears wsX6_nth := goodIn_r _ [12, 8, 28, 29, 30, 31, 32, 33, 34, 35, 36, 37, 38, 39, 40, 41, 42, 43, 44, 45, 46, 47] (by decide +kernel) (by decide +kernel)
set_option maxRecDepth 20000 in
theorem gX6_hears_X6_nth : GoodIn wsX6_hears (wsV RX6 112 RX6 yX6_nth wsX6_nth) := goodIn_app (goodIn_of _ (by decide +kernel)) ggX6_hears_X6_nth
set_option maxRecDepth 20000 in
theorem ggX6_hears_X6_isLength : GoodIn wsX6_hears wsX6_isLength := goodIn_r _ [16, 17, 18, 19, 6, 20, 8, 21, 22, 23, 28, 29, 30, 31, 32, 33, 34, 35, 36, 37, 38, 39, 40, 41, 42, 43, 44, 45, 46, 47] (by decide +kernel) (by decide +kernel)
set_option maxRecDepth 20000 in
theorem gX6_hears_X6_isLength : GoodIn wsX6_hears (wsV RX6 83 RX6 yX6_isLength wsX6_isLength) := goodIn_app (goodIn_of _ (by decide +kernel)) ggX6_hears_X6_isLength
set_option maxRecDepth 20000 in
theorem ggX6_hears_X6_hearing : GoodIn wsX6_hears wsX6_hearing := goodIn_r _ [27, 8, 28, 29, 30, 31, 32, 33, 34, 35, 36, 37, 38, 39, 40, 41, 42, 43, 44, 45, 46, 47] (by decide +kernel) (by decide +kernel)
set_option maxRecDepth 20000 in
theorem gX6_hears_X6_hearing : GoodIn wsX6_hears (wsV RX6 157 RX6 yX6_hearing wsX6_hearing) := goodIn_app (goodIn_of _ (by decide +kernel)) ggX6_hears_X6_hearing
theorem dX6_hears_0 : decode cX6_hears 0 = .ok (.iconst 0, 1) := by decide +kernel
theorem dX6_hears_1 : decode cX6_hears 1 = .ok (.istore_n 3, 1) := by decide +kernel
theorem dX6_hears_2 : decode cX6_hears 2 = .ok (.iload_n 3, 1) := by decide +kernel
theorem dX6_hears_3 : decode cX6_hears 3 = .ok (.bipush 120, 2) := by decide +kernel
theorem dX6_hears_5 : decode cX6_hears 5 = .ok (.if_icmp .gt 24, 3) := by decide +kernel
theorem dX6_hears_8 : decode cX6_hears 8 = .ok (.aload_n 0, 1) := by decide +kernel
theorem dX6_hears_9 : decode cX6_hears 9 = .ok (.getfield 35, 3) := by decide +kernel
theorem dX6_hears_12 : decode cX6_hears 12 = .ok (.iload_n 3, 1) := by decide +kernel
theorem dX6_hears_13 : decode cX6_hears 13 = .ok (.iload_n 3, 1) := by decide +kernel
theorem dX6_hears_14 : decode cX6_hears 14 = .ok (.ifCond .ne 7, 3) := by decide +kernel
theorem dX6_hears_17 : decode cX6_hears 17 = .ok (.iconst 0, 1) := by decide +kernel
theorem dX6_hears_18 : decode cX6_hears 18 = .ok (.goto 4, 3) := by decide +kernel
theorem dX6_hears_21 : decode cX6_hears 21 = .ok (.iconst (-1), 1) := by decide +kernel
theorem dX6_hears_22 : decode cX6_hears 22 = .ok (.iastore, 1) := by decide +kernel
theorem dX6_hears_23 : decode cX6_hears 23 = .ok (.iinc 3 1, 3) := by decide +kernel
theorem dX6_hears_26 : decode cX6_hears 26 = .ok (.goto (-24), 3) := by decide +kernel
theorem dX6_hears_29 : decode cX6_hears 29 = .ok (.iconst 0, 1) := by decide +kernel
theorem dX6_hears_30 : decode cX6_hears 30 = .ok (.istore_n 3, 1) := by decide +kernel
theorem dX6_hears_31 : decode cX6_hears 31 = .ok (.iload_n 3, 1) := by decide +kernel
theorem dX6_hears_32 : decode cX6_hears 32 = .ok (.aload_n 0, 1) := by decide +kernel
theorem dX6_hears_33 : decode cX6_hears 33 = .ok (.iload_n 1, 1) := by decide +kernel
theorem dX6_hears_34 : decode cX6_hears 34 = .ok (.invokevirtual 105, 3) := by decide +kernel
theorem dX6_hears_37 : decode cX6_hears 37 = .ok (.if_icmp .ge 154, 3) := by decide +kernel
theorem dX6_hears_40 : decode cX6_hears 40 = .ok (.iconst 0, 1) := by decide +kernel
theorem dX6_hears_41 : decode cX6_hears 41 = .ok (.istore 4, 2) := by decide +kernel
theorem dX6_hears_43 : decode cX6_hears 43 = .ok (.iload 4, 2) := by decide +kernel
theorem dX6_hears_45 : decode cX6_hears 45 = .ok (.bipush 120, 2) := by decide +kernel
theorem dX6_hears_47 : decode cX6_hears 47 = .ok (.if_icmp .gt 108, 3) := by decide +kernel
theorem dX6_hears_50 : decode cX6_hears 50 = .ok (.iconst (-1), 1) := by decide +kernel
theorem dX6_hears_51 : decode cX6_hears 51 = .ok (.istore 5, 2) := by decide +kernel
theorem dX6_hears_53 : decode cX6_hears 53 = .ok (.iconst 0, 1) := by decide +kernel
theorem dX6_hears_54 : decode cX6_hears 54 = .ok (.istore 6, 2) := by decide +kernel
theorem dX6_hears_56 : decode cX6_hears 56 = .ok (.iload 6, 2) := by decide +kernel
theorem dX6_hears_58 : decode cX6_hears 58 = .ok (.iload 4, 2) := by decide +kernel
theorem dX6_hears_60 : decode cX6_hears 60 = .ok (.if_icmp .gt 63, 3) := by decide +kernel
theorem dX6_hears_63 : decode cX6_hears 63 = .ok (.iload 6, 2) := by decide +kernel
theorem dX6_hears_65 : decode cX6_hears 65 = .ok (.bipush 25, 2) := by decide +kernel
theorem dX6_hears_67 : decode cX6_hears 67 = .ok (.if_icmp .ge 56, 3) := by decide +kernel
theorem dX6_hears_70 : decode cX6_hears 70 = .ok (.aload_n 0, 1) := by decide +kernel
theorem dX6_hears_71 : decode cX6_hears 71 = .ok (.aload_n 0, 1) := by decide +kernel
theorem dX6_hears_72 : decode cX6_hears 72 = .ok (.iload_n 1, 1) := by decide +kernel
theorem dX6_hears_73 : decode cX6_hears 73 = .ok (.iload_n 3, 1) := by decide +kernel
theorem dX6_hears_74 : decode cX6_hears 74 = .ok (.invokevirtual 112, 3) := by decide +kernel
theorem dX6_hears_77 : decode cX6_hears 77 = .ok (.iload 6, 2) := by decide +kernel
theorem dX6_hears_79 : decode cX6_hears 79 = .ok (.invokevirtual 83, 3) := by decide +kernel
theorem dX6_hears_82 : decode cX6_hears 82 = .ok (.ifCond .eq 31, 3) := by decide +kernel
theorem dX6_hears_85 : decode cX6_hears 85 = .ok (.aload_n 0, 1) := by decide +kernel
theorem dX6_hears_86 : decode cX6_hears 86 = .ok (.getfield 35, 3) := by decide +kernel
theorem dX6_hears_89 : decode cX6_hears 89 = .ok (.iload 4, 2) := by decide +kernel
theorem dX6_hears_91 : decode cX6_hears 91 = .ok (.iload 6, 2) := by decide +kernel
theorem dX6_hears_93 : decode cX6_hears 93 = .ok (.isub, 1) := by decide +kernel
theorem dX6_hears_94 : decode cX6_hears 94 = .ok (.iaload, 1) := by decide +kernel
theorem dX6_hears_95 : decode cX6_hears 95 = .ok (.iload 5, 2) := by decide +kernel
theorem dX6_hears_97 : decode cX6_hears 97 = .ok (.if_icmp .le 16, 3) := by decide +kernel
theorem dX6_hears_100 : decode cX6_hears 100 = .ok (.aload_n 0, 1) := by decide +kernel
theorem dX6_hears_101 : decode cX6_hears 101 = .ok (.getfield 35, 3) := by decide +kernel
theorem dX6_hears_104 : decode cX6_hears 104 = .ok (.iload 4, 2) := by decide +kernel
theorem dX6_hears_106 : decode cX6_hears 106 = .ok (.iload 6, 2) := by decide +kernel
theorem dX6_hears_108 : decode cX6_hears 108 = .ok (.isub, 1) := by decide +kernel
theorem dX6_hears_109 : decode cX6_hears 109 = .ok (.iaload, 1) := by decide +kernel
theorem dX6_hears_110 : decode cX6_hears 110 = .ok (.goto 5, 3) := by decide +kernel
theorem dX6_hears_113 : decode cX6_hears 113 = .ok (.iload 5, 2) := by decide +kernel
theorem dX6_hears_115 : decode cX6_hears 115 = .ok (.istore 5, 2) := by decide +kernel
theorem dX6_hears_117 : decode cX6_hears 117 = .ok (.iinc 6 1, 3) := by decide +kernel
theorem dX6_hears_120 : decode cX6_hears 120 = .ok (.goto (-64), 3) := by decide +kernel
theorem dX6_hears_123 : decode cX6_hears 123 = .ok (.aload_n 0, 1) := by decide +kernel
theorem dX6_hears_124 : decode cX6_hears 124 = .ok (.getfield 38, 3) := by decide +kernel
theorem dX6_hears_127 : decode cX6_hears 127 = .ok (.iload 4, 2) := by decide +kernel
theorem dX6_hears_129 : decode cX6_hears 129 = .ok (.iload 5, 2) := by decide +kernel
theorem dX6_hears_131 : decode cX6_hears 131 = .ok (.ifCond .ge 7, 3) := by decide +kernel
theorem dX6_hears_134 : decode cX6_hears 134 = .ok (.iconst (-1), 1) := by decide +kernel
theorem dX6_hears_135 : decode cX6_hears 135 = .ok (.goto 13, 3) := by decide +kernel
theorem dX6_hears_138 : decode cX6_hears 138 = .ok (.iload 5, 2) := by decide +kernel
theorem dX6_hears_140 : decode cX6_hears 140 = .ok (.aload_n 0, 1) := by decide +kernel
theorem dX6_hears_141 : decode cX6_hears 141 = .ok (.iload_n 2, 1) := by decide +kernel
theorem dX6_hears_142 : decode cX6_hears 142 = .ok (.iload 4, 2) := by decide +kernel
theorem dX6_hears_144 : decode cX6_hears 144 = .ok (.invokevirtual 157, 3) := by decide +kernel
theorem dX6_hears_147 : decode cX6_hears 147 = .ok (.iadd, 1) := by decide +kernel
theorem dX6_hears_148 : decode cX6_hears 148 = .ok (.iastore, 1) := by decide +kernel
theorem dX6_hears_149 : decode cX6_hears 149 = .ok (.iinc 4 1, 3) := by decide +kernel
theorem dX6_hears_152 : decode cX6_hears 152 = .ok (.goto (-109), 3) := by decide +kernel
theorem dX6_hears_155 : decode cX6_hears 155 = .ok (.iconst 0, 1) := by decide +kernel
theorem dX6_hears_156 : decode cX6_hears 156 = .ok (.istore 4, 2) := by decide +kernel
theorem dX6_hears_158 : decode cX6_hears 158 = .ok (.iload 4, 2) := by decide +kernel
theorem dX6_hears_160 : decode cX6_hears 160 = .ok (.bipush 120, 2) := by decide +kernel
theorem dX6_hears_162 : decode cX6_hears 162 = .ok (.if_icmp .gt 23, 3) := by decide +kernel
theorem dX6_hears_165 : decode cX6_hears 165 = .ok (.aload_n 0, 1) := by decide +kernel
theorem dX6_hears_166 : decode cX6_hears 166 = .ok (.getfield 35, 3) := by decide +kernel
theorem dX6_hears_169 : decode cX6_hears 169 = .ok (.iload 4, 2) := by decide +kernel
theorem dX6_hears_171 : decode cX6_hears 171 = .ok (.aload_n 0, 1) := by decide +kernel
theorem dX6_hears_172 : decode cX6_hears 172 = .ok (.getfield 38, 3) := by decide +kernel
theorem dX6_hears_175 : decode cX6_hears 175 = .ok (.iload 4, 2) := by decide +kernel
theorem dX6_hears_177 : decode cX6_hears 177 = .ok (.iaload, 1) := by decide +kernel
theorem dX6_hears_178 : decode cX6_hears 178 = .ok (.iastore, 1) := by decide +kernel
theorem dX6_hears_179 : decode cX6_hears 179 = .ok (.iinc 4 1, 3) := by decide +kernel
theorem dX6_hears_182 : decode cX6_hears 182 = .ok (.goto (-24), 3) := by decide +kernel
theorem dX6_hears_185 : decode cX6_hears 185 = .ok (.iinc 3 1, 3) := by decide +kernel
theorem dX6_hears_188 : decode cX6_hears 188 = .ok (.goto (-157), 3) := by decide +kernel
theorem dX6_hears_191 : decode cX6_hears 191 = .ok (.return_, 1) := by decide +kernel
set_option maxRecDepth 20000 in
theorem ggX6_together_X6_isTale : GoodIn wsX6_together wsX6_isTale := goodIn_r _ [7, 1, 8, 9, 6, 10, 48, 49, 50, 51, 52, 53, 54, 55, 56, 57, 58, 59, 60, 61, 62, 63, 64, 65, 66, 67] (by decide +kernel) (by decide +kernel)
set_option maxRecDepth 20000 in
theorem gX6_together_X6_isTale : GoodIn wsX6_together (wsV RX6 102 RX6 yX6_isTale wsX6_isTale) := goodIn_app (goodIn_of _ (by decide +kernel)) ggX6_together_X6_isTale
set_option maxRecDepth 20000 in
theorem ggX6_together_X6_isWords : GoodIn wsX6_together wsX6_isWords := goodIn_r _ [13, 8, 9, 6, 10] (by decide +kernel) (by decide +kernel)
set_option maxRecDepth 20000 in
theorem gX6_together_X6_isWords : GoodIn wsX6_together (va_wsS RX6 118 yX6_isWords wsX6_isWords) := goodIn_app (goodIn_of _ (by decide +kernel)) ggX6_together_X6_isWords
set_option maxRecDepth 20000 in
theorem ggX6_together_X6_in : GoodIn wsX6_together wsX6_in := goodIn_r _ [10] (by decide +kernel) (by decide +kernel)
set_option maxRecDepth 20000 in
theorem gX6_together_X6_in : GoodIn wsX6_together (va_wsS RX6 57 yX6_in wsX6_in) := goodIn_app (goodIn_of _ (by decide +kernel)) ggX6_together_X6_in
set_option maxRecDepth 20000 in
theorem ggX6_together_X6_no : GoodIn wsX6_together wsX6_no := goodIn_r _ [17, 18, 19, 48, 49, 50, 51, 52, 53, 54, 55, 56, 57, 58, 59, 60, 61, 62, 63, 64, 65, 66, 67] (by decide +kernel) (by decide +kernel)
set_option maxRecDepth 20000 in
theorem gX6_together_X6_no : GoodIn wsX6_together (wsV RX6 68 RX6 yX6_no wsX6_no) := goodIn_app (goodIn_of _ (by decide +kernel)) ggX6_together_X6_no
set_option maxRecDepth 20000 in
theorem ggX6_together_X6_hears : GoodIn wsX6_together wsX6_hears := goodIn_r _ [23, 2, 24, 25, 26, 27, 6, 28, 1, 29, 30, 31, 32, 33, 34, 35, 36, 37, 38, 39, 40, 41, 42, 43, 44, 45, 46, 47, 48, 49, 50, 51, 52, 53, 54, 55, 56, 57, 58, 59, 60, 61, 62, 63, 64, 65, 66, 67] (by decide +kernel) (by decide +kernel)
set_option maxRecDepth 20000 in
theorem gX6_together_X6_hears : GoodIn wsX6_together (wsV RX6 160 RX6 yX6_hears wsX6_hears) := goodIn_app (goodIn_of _ (by decide +kernel)) ggX6_together_X6_hears
theorem dX6_together_0 : decode cX6_together 0 = .ok (.aload_n 0, 1) := by decide +kernel
theorem dX6_together_1 : decode cX6_together 1 = .ok (.iload_n 1, 1) := by decide +kernel
theorem dX6_together_2 : decode cX6_together 2 = .ok (.invokevirtual 102, 3) := by decide +kernel
theorem dX6_together_5 : decode cX6_together 5 = .ok (.ifCond .eq 28, 3) := by decide +kernel
theorem dX6_together_8 : decode cX6_together 8 = .ok (.iload_n 2, 1) := by decide +kernel
theorem dX6_together_9 : decode cX6_together 9 = .ok (.invokestatic 118, 3) := by decide +kernel
theorem dX6_together_12 : decode cX6_together 12 = .ok (.ifCond .eq 21, 3) := by decide +kernel
theorem dX6_together_15 : decode cX6_together 15 = .ok (.iload_n 3, 1) := by decide +kernel
theorem dX6_together_16 : decode cX6_together 16 = .ok (.iconst 0, 1) := by decide +kernel
theorem dX6_together_17 : decode cX6_together 17 = .ok (.iconst 1, 1) := by decide +kernel
theorem dX6_together_18 : decode cX6_together 18 = .ok (.aload_n 0, 1) := by decide +kernel
theorem dX6_together_19 : decode cX6_together 19 = .ok (.getfield 9, 3) := by decide +kernel
theorem dX6_together_22 : decode cX6_together 22 = .ok (.iconst 3, 1) := by decide +kernel
theorem dX6_together_23 : decode cX6_together 23 = .ok (.iaload, 1) := by decide +kernel
theorem dX6_together_24 : decode cX6_together 24 = .ok (.ishl, 1) := by decide +kernel
theorem dX6_together_25 : decode cX6_together 25 = .ok (.iconst 1, 1) := by decide +kernel
theorem dX6_together_26 : decode cX6_together 26 = .ok (.isub, 1) := by decide +kernel
theorem dX6_together_27 : decode cX6_together 27 = .ok (.invokestatic 57, 3) := by decide +kernel
theorem dX6_together_30 : decode cX6_together 30 = .ok (.ifCond .ne 9, 3) := by decide +kernel
theorem dX6_together_33 : decode cX6_together 33 = .ok (.aload_n 0, 1) := by decide +kernel
theorem dX6_together_34 : decode cX6_together 34 = .ok (.iconst 0, 1) := by decide +kernel
theorem dX6_together_35 : decode cX6_together 35 = .ok (.invokevirtual 68, 3) := by decide +kernel
theorem dX6_together_38 : decode cX6_together 38 = .ok (.ireturn, 1) := by decide +kernel
theorem dX6_together_39 : decode cX6_together 39 = .ok (.aload_n 0, 1) := by decide +kernel
theorem dX6_together_40 : decode cX6_together 40 = .ok (.iload_n 1, 1) := by decide +kernel
theorem dX6_together_41 : decode cX6_together 41 = .ok (.iload_n 3, 1) := by decide +kernel
theorem dX6_together_42 : decode cX6_together 42 = .ok (.invokevirtual 160, 3) := by decide +kernel
theorem dX6_together_45 : decode cX6_together 45 = .ok (.aload_n 0, 1) := by decide +kernel
theorem dX6_together_46 : decode cX6_together 46 = .ok (.getfield 35, 3) := by decide +kernel
theorem dX6_together_49 : decode cX6_together 49 = .ok (.iload_n 2, 1) := by decide +kernel
theorem dX6_together_50 : decode cX6_together 50 = .ok (.iaload, 1) := by decide +kernel
theorem dX6_together_51 : decode cX6_together 51 = .ok (.ifCond .ge 11, 3) := by decide +kernel
theorem dX6_together_54 : decode cX6_together 54 = .ok (.aload_n 0, 1) := by decide +kernel
theorem dX6_together_55 : decode cX6_together 55 = .ok (.iconst 3, 1) := by decide +kernel
theorem dX6_together_56 : decode cX6_together 56 = .ok (.invokevirtual 68, 3) := by decide +kernel
theorem dX6_together_59 : decode cX6_together 59 = .ok (.goto 9, 3) := by decide +kernel
theorem dX6_together_62 : decode cX6_together 62 = .ok (.aload_n 0, 1) := by decide +kernel
theorem dX6_together_63 : decode cX6_together 63 = .ok (.getfield 35, 3) := by decide +kernel
theorem dX6_together_66 : decode cX6_together 66 = .ok (.iload_n 2, 1) := by decide +kernel
theorem dX6_together_67 : decode cX6_together 67 = .ok (.iaload, 1) := by decide +kernel
theorem dX6_together_68 : decode cX6_together 68 = .ok (.ireturn, 1) := by decide +kernel
set_option maxRecDepth 20000 in
theorem ggX6_passed_X6_canBe : GoodIn wsX6_passed wsX6_canBe := goodIn_r _ [6, 7, 8, 9, 10, 5, 11, 12, 13, 14, 15, 16, 1, 17, 18, 19, 20, 21, 22, 23, 24, 25, 26, 27, 28, 29, 30, 31, 32, 33, 34, 35, 36, 37, 38, 39, 40, 41, 42, 43, 44, 45, 46, 47] (by decide +kernel) (by decide +kernel)
set_option maxRecDepth 20000 in
theorem gX6_passed_X6_canBe : GoodIn wsX6_passed (wsV RX6 144 RX6 yX6_canBe wsX6_canBe) := goodIn_app (goodIn_of _ (by decide +kernel)) ggX6_passed_X6_canBe
theorem dX6_passed_0 : decode cX6_passed 0 = .ok (.iload_n 2, 1) := by decide +kernel
theorem dX6_passed_1 : decode cX6_passed 1 = .ok (.istore 4, 2) := by decide +kernel
theorem dX6_passed_3 : decode cX6_passed 3 = .ok (.iload 4, 2) := by decide +kernel
theorem dX6_passed_5 : decode cX6_passed 5 = .ok (.ifCond .le 29, 3) := by decide +kernel
theorem dX6_passed_8 : decode cX6_passed 8 = .ok (.aload_n 0, 1) := by decide +kernel
theorem dX6_passed_9 : decode cX6_passed 9 = .ok (.iload_n 1, 1) := by decide +kernel
theorem dX6_passed_10 : decode cX6_passed 10 = .ok (.iload 4, 2) := by decide +kernel
theorem dX6_passed_12 : decode cX6_passed 12 = .ok (.aload_n 0, 1) := by decide +kernel
theorem dX6_passed_13 : decode cX6_passed 13 = .ok (.getfield 9, 3) := by decide +kernel
theorem dX6_passed_16 : decode cX6_passed 16 = .ok (.sipush 156, 3) := by decide +kernel
theorem dX6_passed_19 : decode cX6_passed 19 = .ok (.iload_n 3, 1) := by decide +kernel
theorem dX6_passed_20 : decode cX6_passed 20 = .ok (.iadd, 1) := by decide +kernel
theorem dX6_passed_21 : decode cX6_passed 21 = .ok (.iaload, 1) := by decide +kernel
theorem dX6_passed_22 : decode cX6_passed 22 = .ok (.invokevirtual 144, 3) := by decide +kernel
theorem dX6_passed_25 : decode cX6_passed 25 = .ok (.ifCond .ne 9, 3) := by decide +kernel
theorem dX6_passed_28 : decode cX6_passed 28 = .ok (.iinc 4 (-1), 3) := by decide +kernel
theorem dX6_passed_31 : decode cX6_passed 31 = .ok (.goto (-28), 3) := by decide +kernel
theorem dX6_passed_34 : decode cX6_passed 34 = .ok (.iload 4, 2) := by decide +kernel
theorem dX6_passed_36 : decode cX6_passed 36 = .ok (.ireturn, 1) := by decide +kernel
set_option maxRecDepth 20000 in
theorem ggX6_pass_X6_areTold : GoodIn wsX6_pass wsX6_areTold := goodIn_r _ [5, 6, 7, 8, 4, 9, 10, 11, 12, 13, 14, 15, 16, 17, 57, 58, 59, 60, 61, 62, 63, 64, 65, 66, 67, 68, 69, 70, 71, 72, 73, 74, 75, 76] (by decide +kernel) (by decide +kernel)
set_option maxRecDepth 20000 in
theorem gX6_pass_X6_areTold : GoodIn wsX6_pass (wsV RX6 150 RX6 yX6_areTold wsX6_areTold) := goodIn_app (goodIn_of _ (by decide +kernel)) ggX6_pass_X6_areTold
set_option maxRecDepth 20000 in
theorem ggX6_pass_X6_long_ : GoodIn wsX6_pass wsX6_long_ := goodIn_r _ [21, 10, 57, 58, 59, 60, 61, 62, 63, 64, 65, 66, 67, 68, 69, 70, 71, 72, 73, 74, 75, 76] (by decide +kernel) (by decide +kernel)
set_option maxRecDepth 20000 in
theorem gX6_pass_X6_long_ : GoodIn wsX6_pass (wsV RX6 105 RX6 yX6_long_ wsX6_long_) := goodIn_app (goodIn_of _ (by decide +kernel)) ggX6_pass_X6_long_
set_option maxRecDepth 20000 in
theorem ggX6_pass_X6_passed : GoodIn wsX6_pass wsX6_passed := goodIn_r _ [25, 10, 26, 27, 28, 4, 29, 30, 31, 32, 33, 34, 35, 36, 37, 38, 39, 40, 41, 42, 43, 44, 45, 46, 47, 48, 49, 50, 57, 58, 59, 60, 61, 62, 63, 64, 65, 66, 67, 68, 69, 70, 71, 72, 73, 74, 75, 76] (by decide +kernel) (by decide +kernel)
set_option maxRecDepth 20000 in
theorem gX6_pass_X6_passed : GoodIn wsX6_pass (wsV RX6 163 RX6 yX6_passed wsX6_passed) := goodIn_app (goodIn_of _ (by decide +kernel)) ggX6_pass_X6_passed
set_option maxRecDepth 20000 in
theorem ggX6_pass_X6_no : GoodIn wsX6_pass wsX6_no := goodIn_r _ [54, 55, 56, 57, 58, 59, 60, 61, 62, 63, 64, 65, 66, 67, 68, 69, 70, 71, 72, 73, 74, 75, 76] (by decide +kernel) (by decide +kernel)
set_option maxRecDepth 20000 in
theorem gX6_pass_X6_no : GoodIn wsX6_pass (wsV RX6 68 RX6 yX6_no wsX6_no) := goodIn_app (goodIn_of _ (by decide +kernel)) ggX6_pass_X6_no
theorem dX6_pass_0 : decode cX6_pass 0 = .ok (.aload_n 0, 1) := by decide +kernel
theorem dX6_pass_1 : decode cX6_pass 1 = .ok (.iload_n 1, 1) := by decide +kernel
theorem dX6_pass_2 : decode cX6_pass 2 = .ok (.iload_n 2, 1) := by decide +kernel
theorem dX6_pass_3 : decode cX6_pass 3 = .ok (.invokevirtual 150, 3) := by decide +kernel
theorem dX6_pass_6 : decode cX6_pass 6 = .ok (.ifCond .eq 17, 3) := by decide +kernel
theorem dX6_pass_9 : decode cX6_pass 9 = .ok (.aload_n 0, 1) := by decide +kernel
theorem dX6_pass_10 : decode cX6_pass 10 = .ok (.iload_n 1, 1) := by decide +kernel
theorem dX6_pass_11 : decode cX6_pass 11 = .ok (.aload_n 0, 1) := by decide +kernel
theorem dX6_pass_12 : decode cX6_pass 12 = .ok (.iload_n 1, 1) := by decide +kernel
theorem dX6_pass_13 : decode cX6_pass 13 = .ok (.invokevirtual 105, 3) := by decide +kernel
theorem dX6_pass_16 : decode cX6_pass 16 = .ok (.iload_n 2, 1) := by decide +kernel
theorem dX6_pass_17 : decode cX6_pass 17 = .ok (.invokevirtual 163, 3) := by decide +kernel
theorem dX6_pass_20 : decode cX6_pass 20 = .ok (.goto 8, 3) := by decide +kernel
theorem dX6_pass_23 : decode cX6_pass 23 = .ok (.aload_n 0, 1) := by decide +kernel
theorem dX6_pass_24 : decode cX6_pass 24 = .ok (.iconst 0, 1) := by decide +kernel
theorem dX6_pass_25 : decode cX6_pass 25 = .ok (.invokevirtual 68, 3) := by decide +kernel
theorem dX6_pass_28 : decode cX6_pass 28 = .ok (.ireturn, 1) := by decide +kernel
set_option maxRecDepth 20000 in
theorem ggX6_through_X6_areTold : GoodIn wsX6_through wsX6_areTold := goodIn_r _ [5, 6, 7, 8, 4, 9, 10, 11, 12, 13, 14, 15, 16, 17, 57, 58, 59, 60, 61, 62, 63, 64, 65, 66, 67, 68, 69, 70, 71, 72, 73, 74, 75, 76] (by decide +kernel) (by decide +kernel)
set_option maxRecDepth 20000 in
theorem gX6_through_X6_areTold : GoodIn wsX6_through (wsV RX6 150 RX6 yX6_areTold wsX6_areTold) := goodIn_app (goodIn_of _ (by decide +kernel)) ggX6_through_X6_areTold
set_option maxRecDepth 20000 in
theorem ggX6_through_X6_isHearer : GoodIn wsX6_through wsX6_isHearer := goodIn_r _ [17, 10, 11, 12, 4, 13, 57, 58, 59, 60, 61, 62, 63, 64, 65, 66, 67, 68, 69, 70, 71, 72, 73, 74, 75, 76] (by decide +kernel) (by decide +kernel)
set_option maxRecDepth 20000 in
theorem gX6_through_X6_isHearer : GoodIn wsX6_through (wsV RX6 138 RX6 yX6_isHearer wsX6_isHearer) := goodIn_app (goodIn_of _ (by decide +kernel)) ggX6_through_X6_isHearer
set_option maxRecDepth 20000 in
theorem ggX6_through_X6_no : GoodIn wsX6_through wsX6_no := goodIn_r _ [21, 22, 23, 57, 58, 59, 60, 61, 62, 63, 64, 65, 66, 67, 68, 69, 70, 71, 72, 73, 74, 75, 76] (by decide +kernel) (by decide +kernel)
set_option maxRecDepth 20000 in
theorem gX6_through_X6_no : GoodIn wsX6_through (wsV RX6 68 RX6 yX6_no wsX6_no) := goodIn_app (goodIn_of _ (by decide +kernel)) ggX6_through_X6_no
set_option maxRecDepth 20000 in
theorem ggX6_through_X6_long_ : GoodIn wsX6_through wsX6_long_ := goodIn_r _ [27, 10, 57, 58, 59, 60, 61, 62, 63, 64, 65, 66, 67, 68, 69, 70, 71, 72, 73, 74, 75, 76] (by decide +kernel) (by decide +kernel)
set_option maxRecDepth 20000 in
theorem gX6_through_X6_long_ : GoodIn wsX6_through (wsV RX6 105 RX6 yX6_long_ wsX6_long_) := goodIn_app (goodIn_of _ (by decide +kernel)) ggX6_through_X6_long_
set_option maxRecDepth 20000 in
theorem ggX6_through_X6_passed : GoodIn wsX6_through wsX6_passed := goodIn_r _ [31, 10, 32, 33, 34, 4, 35, 36, 37, 38, 39, 40, 41, 42, 43, 44, 45, 46, 47, 48, 49, 50, 51, 52, 53, 54, 55, 56, 57, 58, 59, 60, 61, 62, 63, 64, 65, 66, 67, 68, 69, 70, 71, 72, 73, 74, 75, 76] (by decide +kernel) (by decide +kernel)
set_option maxRecDepth 20000 in
theorem gX6_through_X6_passed : GoodIn wsX6_through (wsV RX6 163 RX6 yX6_passed wsX6_passed) := goodIn_app (goodIn_of _ (by decide +kernel)) ggX6_through_X6_passed
theorem dX6_through_0 : decode cX6_through 0 = .ok (.aload_n 0, 1) := by decide +kernel
theorem dX6_through_1 : decode cX6_through 1 = .ok (.iload_n 1, 1) := by decide +kernel
theorem dX6_through_2 : decode cX6_through 2 = .ok (.iload_n 2, 1) := by decide +kernel
theorem dX6_through_3 : decode cX6_through 3 = .ok (.invokevirtual 150, 3) := by decide +kernel
theorem dX6_through_6 : decode cX6_through 6 = .ok (.ifCond .eq 11, 3) := by decide +kernel
theorem dX6_through_9 : decode cX6_through 9 = .ok (.aload_n 0, 1) := by decide +kernel
theorem dX6_through_10 : decode cX6_through 10 = .ok (.iload_n 3, 1) := by decide +kernel
theorem dX6_through_11 : decode cX6_through 11 = .ok (.invokevirtual 138, 3) := by decide +kernel
theorem dX6_through_14 : decode cX6_through 14 = .ok (.ifCond .ne 9, 3) := by decide +kernel
theorem dX6_through_17 : decode cX6_through 17 = .ok (.aload_n 0, 1) := by decide +kernel
theorem dX6_through_18 : decode cX6_through 18 = .ok (.iconst 0, 1) := by decide +kernel
theorem dX6_through_19 : decode cX6_through 19 = .ok (.invokevirtual 68, 3) := by decide +kernel
theorem dX6_through_22 : decode cX6_through 22 = .ok (.ireturn, 1) := by decide +kernel
theorem dX6_through_23 : decode cX6_through 23 = .ok (.aload_n 0, 1) := by decide +kernel
theorem dX6_through_24 : decode cX6_through 24 = .ok (.iload_n 1, 1) := by decide +kernel
theorem dX6_through_25 : decode cX6_through 25 = .ok (.aload_n 0, 1) := by decide +kernel
theorem dX6_through_26 : decode cX6_through 26 = .ok (.iload_n 1, 1) := by decide +kernel
theorem dX6_through_27 : decode cX6_through 27 = .ok (.aload_n 0, 1) := by decide +kernel
theorem dX6_through_28 : decode cX6_through 28 = .ok (.iload_n 1, 1) := by decide +kernel
theorem dX6_through_29 : decode cX6_through 29 = .ok (.invokevirtual 105, 3) := by decide +kernel
theorem dX6_through_32 : decode cX6_through 32 = .ok (.iload_n 2, 1) := by decide +kernel
theorem dX6_through_33 : decode cX6_through 33 = .ok (.invokevirtual 163, 3) := by decide +kernel
theorem dX6_through_36 : decode cX6_through 36 = .ok (.iload_n 3, 1) := by decide +kernel
theorem dX6_through_37 : decode cX6_through 37 = .ok (.invokevirtual 163, 3) := by decide +kernel
theorem dX6_through_40 : decode cX6_through 40 = .ok (.ireturn, 1) := by decide +kernel
set_option maxRecDepth 20000 in
theorem ggX6_middle_X6_areTold : GoodIn wsX6_middle wsX6_areTold := goodIn_r _ [6, 7, 8, 9, 5, 10, 1, 11, 12, 13, 14, 15, 16, 17, 57, 58, 59, 60, 61, 62, 63, 64, 65, 66, 67, 68, 69, 70, 71, 72, 73, 74, 75, 76] (by decide +kernel) (by decide +kernel)
set_option maxRecDepth 20000 in
theorem gX6_middle_X6_areTold : GoodIn wsX6_middle (wsV RX6 150 RX6 yX6_areTold wsX6_areTold) := goodIn_app (goodIn_of _ (by decide +kernel)) ggX6_middle_X6_areTold
set_option maxRecDepth 20000 in
theorem ggX6_middle_X6_isHearer : GoodIn wsX6_middle wsX6_isHearer := goodIn_r _ [17, 1, 11, 12, 5, 13, 57, 58, 59, 60, 61, 62, 63, 64, 65, 66, 67, 68, 69, 70, 71, 72, 73, 74, 75, 76] (by decide +kernel) (by decide +kernel)
set_option maxRecDepth 20000 in
theorem gX6_middle_X6_isHearer : GoodIn wsX6_middle (wsV RX6 138 RX6 yX6_isHearer wsX6_isHearer) := goodIn_app (goodIn_of _ (by decide +kernel)) ggX6_middle_X6_isHearer
set_option maxRecDepth 20000 in
theorem ggX6_middle_X6_no : GoodIn wsX6_middle wsX6_no := goodIn_r _ [21, 22, 23, 57, 58, 59, 60, 61, 62, 63, 64, 65, 66, 67, 68, 69, 70, 71, 72, 73, 74, 75, 76] (by decide +kernel) (by decide +kernel)
set_option maxRecDepth 20000 in
theorem gX6_middle_X6_no : GoodIn wsX6_middle (wsV RX6 68 RX6 yX6_no wsX6_no) := goodIn_app (goodIn_of _ (by decide +kernel)) ggX6_middle_X6_no
set_option maxRecDepth 20000 in
theorem ggX6_middle_X6_long_ : GoodIn wsX6_middle wsX6_long_ := goodIn_r _ [27, 1, 57, 58, 59, 60, 61, 62, 63, 64, 65, 66, 67, 68, 69, 70, 71, 72, 73, 74, 75, 76] (by decide +kernel) (by decide +kernel)
set_option maxRecDepth 20000 in
theorem gX6_middle_X6_long_ : GoodIn wsX6_middle (wsV RX6 105 RX6 yX6_long_ wsX6_long_) := goodIn_app (goodIn_of _ (by decide +kernel)) ggX6_middle_X6_long_
set_option maxRecDepth 20000 in
theorem ggX6_middle_X6_passed : GoodIn wsX6_middle wsX6_passed := goodIn_r _ [31, 1, 32, 33, 34, 5, 35, 36, 37, 38, 39, 40, 41, 42, 43, 44, 45, 46, 47, 48, 49, 50, 51, 52, 53, 54, 55, 56, 57, 58, 59, 60, 61, 62, 63, 64, 65, 66, 67, 68, 69, 70, 71, 72, 73, 74, 75, 76] (by decide +kernel) (by decide +kernel)
set_option maxRecDepth 20000 in
theorem gX6_middle_X6_passed : GoodIn wsX6_middle (wsV RX6 163 RX6 yX6_passed wsX6_passed) := goodIn_app (goodIn_of _ (by decide +kernel)) ggX6_middle_X6_passed
theorem dX6_middle_0 : decode cX6_middle 0 = .ok (.aload_n 0, 1) := by decide +kernel
theorem dX6_middle_1 : decode cX6_middle 1 = .ok (.iload_n 1, 1) := by decide +kernel
theorem dX6_middle_2 : decode cX6_middle 2 = .ok (.iload_n 2, 1) := by decide +kernel
theorem dX6_middle_3 : decode cX6_middle 3 = .ok (.invokevirtual 150, 3) := by decide +kernel
theorem dX6_middle_6 : decode cX6_middle 6 = .ok (.ifCond .eq 16, 3) := by decide +kernel
theorem dX6_middle_9 : decode cX6_middle 9 = .ok (.aload_n 0, 1) := by decide +kernel
theorem dX6_middle_10 : decode cX6_middle 10 = .ok (.iload_n 3, 1) := by decide +kernel
theorem dX6_middle_11 : decode cX6_middle 11 = .ok (.invokevirtual 138, 3) := by decide +kernel
theorem dX6_middle_14 : decode cX6_middle 14 = .ok (.ifCond .eq 8, 3) := by decide +kernel
theorem dX6_middle_17 : decode cX6_middle 17 = .ok (.iload_n 2, 1) := by decide +kernel
theorem dX6_middle_18 : decode cX6_middle 18 = .ok (.iload_n 3, 1) := by decide +kernel
theorem dX6_middle_19 : decode cX6_middle 19 = .ok (.if_icmp .ne 9, 3) := by decide +kernel
theorem dX6_middle_22 : decode cX6_middle 22 = .ok (.aload_n 0, 1) := by decide +kernel
theorem dX6_middle_23 : decode cX6_middle 23 = .ok (.iconst 0, 1) := by decide +kernel
theorem dX6_middle_24 : decode cX6_middle 24 = .ok (.invokevirtual 68, 3) := by decide +kernel
theorem dX6_middle_27 : decode cX6_middle 27 = .ok (.ireturn, 1) := by decide +kernel
theorem dX6_middle_28 : decode cX6_middle 28 = .ok (.aload_n 0, 1) := by decide +kernel
theorem dX6_middle_29 : decode cX6_middle 29 = .ok (.iload_n 1, 1) := by decide +kernel
theorem dX6_middle_30 : decode cX6_middle 30 = .ok (.aload_n 0, 1) := by decide +kernel
theorem dX6_middle_31 : decode cX6_middle 31 = .ok (.iload_n 1, 1) := by decide +kernel
theorem dX6_middle_32 : decode cX6_middle 32 = .ok (.invokevirtual 105, 3) := by decide +kernel
theorem dX6_middle_35 : decode cX6_middle 35 = .ok (.iload_n 2, 1) := by decide +kernel
theorem dX6_middle_36 : decode cX6_middle 36 = .ok (.invokevirtual 163, 3) := by decide +kernel
theorem dX6_middle_39 : decode cX6_middle 39 = .ok (.istore 4, 2) := by decide +kernel
theorem dX6_middle_41 : decode cX6_middle 41 = .ok (.iconst (-1), 1) := by decide +kernel
theorem dX6_middle_42 : decode cX6_middle 42 = .ok (.istore 5, 2) := by decide +kernel
theorem dX6_middle_44 : decode cX6_middle 44 = .ok (.iconst (-1), 1) := by decide +kernel
theorem dX6_middle_45 : decode cX6_middle 45 = .ok (.istore 6, 2) := by decide +kernel
theorem dX6_middle_47 : decode cX6_middle 47 = .ok (.iconst 0, 1) := by decide +kernel
theorem dX6_middle_48 : decode cX6_middle 48 = .ok (.istore 7, 2) := by decide +kernel
theorem dX6_middle_50 : decode cX6_middle 50 = .ok (.iload 7, 2) := by decide +kernel
theorem dX6_middle_52 : decode cX6_middle 52 = .ok (.aload_n 0, 1) := by decide +kernel
theorem dX6_middle_53 : decode cX6_middle 53 = .ok (.getfield 9, 3) := by decide +kernel
theorem dX6_middle_56 : decode cX6_middle 56 = .ok (.iconst 3, 1) := by decide +kernel
theorem dX6_middle_57 : decode cX6_middle 57 = .ok (.iaload, 1) := by decide +kernel
theorem dX6_middle_58 : decode cX6_middle 58 = .ok (.if_icmp .ge 74, 3) := by decide +kernel
theorem dX6_middle_61 : decode cX6_middle 61 = .ok (.iload 7, 2) := by decide +kernel
theorem dX6_middle_63 : decode cX6_middle 63 = .ok (.iload_n 2, 1) := by decide +kernel
theorem dX6_middle_64 : decode cX6_middle 64 = .ok (.if_icmp .eq 9, 3) := by decide +kernel
theorem dX6_middle_67 : decode cX6_middle 67 = .ok (.iload 7, 2) := by decide +kernel
theorem dX6_middle_69 : decode cX6_middle 69 = .ok (.iload_n 3, 1) := by decide +kernel
theorem dX6_middle_70 : decode cX6_middle 70 = .ok (.if_icmp .ne 7, 3) := by decide +kernel
theorem dX6_middle_73 : decode cX6_middle 73 = .ok (.iconst (-1), 1) := by decide +kernel
theorem dX6_middle_74 : decode cX6_middle 74 = .ok (.goto 18, 3) := by decide +kernel
theorem dX6_middle_77 : decode cX6_middle 77 = .ok (.aload_n 0, 1) := by decide +kernel
theorem dX6_middle_78 : decode cX6_middle 78 = .ok (.iload_n 1, 1) := by decide +kernel
theorem dX6_middle_79 : decode cX6_middle 79 = .ok (.aload_n 0, 1) := by decide +kernel
theorem dX6_middle_80 : decode cX6_middle 80 = .ok (.iload_n 1, 1) := by decide +kernel
theorem dX6_middle_81 : decode cX6_middle 81 = .ok (.iload 4, 2) := by decide +kernel
theorem dX6_middle_83 : decode cX6_middle 83 = .ok (.iload 7, 2) := by decide +kernel
theorem dX6_middle_85 : decode cX6_middle 85 = .ok (.invokevirtual 163, 3) := by decide +kernel
theorem dX6_middle_88 : decode cX6_middle 88 = .ok (.iload_n 3, 1) := by decide +kernel
theorem dX6_middle_89 : decode cX6_middle 89 = .ok (.invokevirtual 163, 3) := by decide +kernel
theorem dX6_middle_92 : decode cX6_middle 92 = .ok (.istore 8, 2) := by decide +kernel
theorem dX6_middle_94 : decode cX6_middle 94 = .ok (.iload 8, 2) := by decide +kernel
theorem dX6_middle_96 : decode cX6_middle 96 = .ok (.iload 6, 2) := by decide +kernel
theorem dX6_middle_98 : decode cX6_middle 98 = .ok (.if_icmp .le 8, 3) := by decide +kernel
theorem dX6_middle_101 : decode cX6_middle 101 = .ok (.iload 7, 2) := by decide +kernel
theorem dX6_middle_103 : decode cX6_middle 103 = .ok (.goto 5, 3) := by decide +kernel
theorem dX6_middle_106 : decode cX6_middle 106 = .ok (.iload 5, 2) := by decide +kernel
theorem dX6_middle_108 : decode cX6_middle 108 = .ok (.istore 5, 2) := by decide +kernel
theorem dX6_middle_110 : decode cX6_middle 110 = .ok (.iload 8, 2) := by decide +kernel
theorem dX6_middle_112 : decode cX6_middle 112 = .ok (.iload 6, 2) := by decide +kernel
theorem dX6_middle_114 : decode cX6_middle 114 = .ok (.if_icmp .le 8, 3) := by decide +kernel
theorem dX6_middle_117 : decode cX6_middle 117 = .ok (.iload 8, 2) := by decide +kernel
theorem dX6_middle_119 : decode cX6_middle 119 = .ok (.goto 5, 3) := by decide +kernel
theorem dX6_middle_122 : decode cX6_middle 122 = .ok (.iload 6, 2) := by decide +kernel
theorem dX6_middle_124 : decode cX6_middle 124 = .ok (.istore 6, 2) := by decide +kernel
theorem dX6_middle_126 : decode cX6_middle 126 = .ok (.iinc 7 1, 3) := by decide +kernel
theorem dX6_middle_129 : decode cX6_middle 129 = .ok (.goto (-79), 3) := by decide +kernel
theorem dX6_middle_132 : decode cX6_middle 132 = .ok (.iload 5, 2) := by decide +kernel
theorem dX6_middle_134 : decode cX6_middle 134 = .ok (.ifCond .ge 11, 3) := by decide +kernel
theorem dX6_middle_137 : decode cX6_middle 137 = .ok (.aload_n 0, 1) := by decide +kernel
theorem dX6_middle_138 : decode cX6_middle 138 = .ok (.iconst 3, 1) := by decide +kernel
theorem dX6_middle_139 : decode cX6_middle 139 = .ok (.invokevirtual 68, 3) := by decide +kernel
theorem dX6_middle_142 : decode cX6_middle 142 = .ok (.goto 5, 3) := by decide +kernel
theorem dX6_middle_145 : decode cX6_middle 145 = .ok (.iload 5, 2) := by decide +kernel
theorem dX6_middle_147 : decode cX6_middle 147 = .ok (.ireturn, 1) := by decide +kernel
set_option maxRecDepth 20000 in
theorem ggX6_chain_X6_isTale : GoodIn wsX6_chain wsX6_isTale := goodIn_r _ [6, 1, 7, 8, 5, 9, 49, 50, 51, 52, 53, 54, 55, 56, 57, 58, 59, 60, 61, 62, 63, 64, 65, 66, 67, 68] (by decide +kernel) (by decide +kernel)
set_option maxRecDepth 20000 in
theorem gX6_chain_X6_isTale : GoodIn wsX6_chain (wsV RX6 102 RX6 yX6_isTale wsX6_isTale) := goodIn_app (goodIn_of _ (by decide +kernel)) ggX6_chain_X6_isTale
set_option maxRecDepth 20000 in
theorem ggX6_chain_X6_no : GoodIn wsX6_chain wsX6_no := goodIn_r _ [13, 14, 15, 49, 50, 51, 52, 53, 54, 55, 56, 57, 58, 59, 60, 61, 62, 63, 64, 65, 66, 67, 68] (by decide +kernel) (by decide +kernel)
set_option maxRecDepth 20000 in
theorem gX6_chain_X6_no : GoodIn wsX6_chain (wsV RX6 68 RX6 yX6_no wsX6_no) := goodIn_app (goodIn_of _ (by decide +kernel)) ggX6_chain_X6_no
set_option maxRecDepth 20000 in
theorem ggX6_chain_X6_long_ : GoodIn wsX6_chain wsX6_long_ := goodIn_r _ [19, 1, 49, 50, 51, 52, 53, 54, 55, 56, 57, 58, 59, 60, 61, 62, 63, 64, 65, 66, 67, 68] (by decide +kernel) (by decide +kernel)
set_option maxRecDepth 20000 in
theorem gX6_chain_X6_long_ : GoodIn wsX6_chain (wsV RX6 105 RX6 yX6_long_ wsX6_long_) := goodIn_app (goodIn_of _ (by decide +kernel)) ggX6_chain_X6_long_
set_option maxRecDepth 20000 in
theorem ggX6_chain_X6_passed : GoodIn wsX6_chain wsX6_passed := goodIn_r _ [23, 1, 24, 25, 26, 5, 27, 28, 29, 30, 31, 32, 33, 34, 35, 36, 37, 38, 39, 40, 41, 42, 43, 44, 45, 46, 47, 48, 49, 50, 51, 52, 53, 54, 55, 56, 57, 58, 59, 60, 61, 62, 63, 64, 65, 66, 67, 68] (by decide +kernel) (by decide +kernel)
set_option maxRecDepth 20000 in
theorem gX6_chain_X6_passed : GoodIn wsX6_chain (wsV RX6 163 RX6 yX6_passed wsX6_passed) := goodIn_app (goodIn_of _ (by decide +kernel)) ggX6_chain_X6_passed
theorem dX6_chain_0 : decode cX6_chain 0 = .ok (.aload_n 0, 1) := by decide +kernel
theorem dX6_chain_1 : decode cX6_chain 1 = .ok (.iload_n 1, 1) := by decide +kernel
theorem dX6_chain_2 : decode cX6_chain 2 = .ok (.invokevirtual 102, 3) := by decide +kernel
theorem dX6_chain_5 : decode cX6_chain 5 = .ok (.ifCond .ne 9, 3) := by decide +kernel
theorem dX6_chain_8 : decode cX6_chain 8 = .ok (.aload_n 0, 1) := by decide +kernel
theorem dX6_chain_9 : decode cX6_chain 9 = .ok (.iconst 0, 1) := by decide +kernel
theorem dX6_chain_10 : decode cX6_chain 10 = .ok (.invokevirtual 68, 3) := by decide +kernel
theorem dX6_chain_13 : decode cX6_chain 13 = .ok (.ireturn, 1) := by decide +kernel
theorem dX6_chain_14 : decode cX6_chain 14 = .ok (.aload_n 0, 1) := by decide +kernel
theorem dX6_chain_15 : decode cX6_chain 15 = .ok (.getfield 9, 3) := by decide +kernel
theorem dX6_chain_18 : decode cX6_chain 18 = .ok (.iconst 3, 1) := by decide +kernel
theorem dX6_chain_19 : decode cX6_chain 19 = .ok (.iaload, 1) := by decide +kernel
theorem dX6_chain_20 : decode cX6_chain 20 = .ok (.ifCond .ne 9, 3) := by decide +kernel
theorem dX6_chain_23 : decode cX6_chain 23 = .ok (.aload_n 0, 1) := by decide +kernel
theorem dX6_chain_24 : decode cX6_chain 24 = .ok (.iconst 3, 1) := by decide +kernel
theorem dX6_chain_25 : decode cX6_chain 25 = .ok (.invokevirtual 68, 3) := by decide +kernel
theorem dX6_chain_28 : decode cX6_chain 28 = .ok (.ireturn, 1) := by decide +kernel
theorem dX6_chain_29 : decode cX6_chain 29 = .ok (.aload_n 0, 1) := by decide +kernel
theorem dX6_chain_30 : decode cX6_chain 30 = .ok (.iload_n 1, 1) := by decide +kernel
theorem dX6_chain_31 : decode cX6_chain 31 = .ok (.invokevirtual 105, 3) := by decide +kernel
theorem dX6_chain_34 : decode cX6_chain 34 = .ok (.istore_n 2, 1) := by decide +kernel
theorem dX6_chain_35 : decode cX6_chain 35 = .ok (.iconst 0, 1) := by decide +kernel
theorem dX6_chain_36 : decode cX6_chain 36 = .ok (.istore_n 3, 1) := by decide +kernel
theorem dX6_chain_37 : decode cX6_chain 37 = .ok (.iload_n 3, 1) := by decide +kernel
theorem dX6_chain_38 : decode cX6_chain 38 = .ok (.aload_n 0, 1) := by decide +kernel
theorem dX6_chain_39 : decode cX6_chain 39 = .ok (.getfield 9, 3) := by decide +kernel
theorem dX6_chain_42 : decode cX6_chain 42 = .ok (.iconst 3, 1) := by decide +kernel
theorem dX6_chain_43 : decode cX6_chain 43 = .ok (.iaload, 1) := by decide +kernel
theorem dX6_chain_44 : decode cX6_chain 44 = .ok (.if_icmp .ge 17, 3) := by decide +kernel
theorem dX6_chain_47 : decode cX6_chain 47 = .ok (.aload_n 0, 1) := by decide +kernel
theorem dX6_chain_48 : decode cX6_chain 48 = .ok (.iload_n 1, 1) := by decide +kernel
theorem dX6_chain_49 : decode cX6_chain 49 = .ok (.iload_n 2, 1) := by decide +kernel
theorem dX6_chain_50 : decode cX6_chain 50 = .ok (.iload_n 3, 1) := by decide +kernel
theorem dX6_chain_51 : decode cX6_chain 51 = .ok (.invokevirtual 163, 3) := by decide +kernel
theorem dX6_chain_54 : decode cX6_chain 54 = .ok (.istore_n 2, 1) := by decide +kernel
theorem dX6_chain_55 : decode cX6_chain 55 = .ok (.iinc 3 1, 3) := by decide +kernel
theorem dX6_chain_58 : decode cX6_chain 58 = .ok (.goto (-21), 3) := by decide +kernel
theorem dX6_chain_61 : decode cX6_chain 61 = .ok (.iload_n 2, 1) := by decide +kernel
theorem dX6_chain_62 : decode cX6_chain 62 = .ok (.ireturn, 1) := by decide +kernel
theorem dX6_isNear_0 : decode cX6_isNear 0 = .ok (.iconst 0, 1) := by decide +kernel
theorem dX6_isNear_1 : decode cX6_isNear 1 = .ok (.istore 4, 2) := by decide +kernel
theorem dX6_isNear_3 : decode cX6_isNear 3 = .ok (.iconst 0, 1) := by decide +kernel
theorem dX6_isNear_4 : decode cX6_isNear 4 = .ok (.istore 5, 2) := by decide +kernel
theorem dX6_isNear_6 : decode cX6_isNear 6 = .ok (.iload 5, 2) := by decide +kernel
theorem dX6_isNear_8 : decode cX6_isNear 8 = .ok (.aload_n 0, 1) := by decide +kernel
theorem dX6_isNear_9 : decode cX6_isNear 9 = .ok (.getfield 9, 3) := by decide +kernel
theorem dX6_isNear_12 : decode cX6_isNear 12 = .ok (.iconst 3, 1) := by decide +kernel
theorem dX6_isNear_13 : decode cX6_isNear 13 = .ok (.iaload, 1) := by decide +kernel
theorem dX6_isNear_14 : decode cX6_isNear 14 = .ok (.if_icmp .ge 72, 3) := by decide +kernel
theorem dX6_isNear_17 : decode cX6_isNear 17 = .ok (.iload 4, 2) := by decide +kernel
theorem dX6_isNear_19 : decode cX6_isNear 19 = .ok (.ifCond .ne 67, 3) := by decide +kernel
theorem dX6_isNear_22 : decode cX6_isNear 22 = .ok (.aload_n 0, 1) := by decide +kernel
theorem dX6_isNear_23 : decode cX6_isNear 23 = .ok (.getfield 9, 3) := by decide +kernel
theorem dX6_isNear_26 : decode cX6_isNear 26 = .ok (.sipush 156, 3) := by decide +kernel
theorem dX6_isNear_29 : decode cX6_isNear 29 = .ok (.iload_n 1, 1) := by decide +kernel
theorem dX6_isNear_30 : decode cX6_isNear 30 = .ok (.iadd, 1) := by decide +kernel
theorem dX6_isNear_31 : decode cX6_isNear 31 = .ok (.iaload, 1) := by decide +kernel
theorem dX6_isNear_32 : decode cX6_isNear 32 = .ok (.aload_n 0, 1) := by decide +kernel
theorem dX6_isNear_33 : decode cX6_isNear 33 = .ok (.getfield 9, 3) := by decide +kernel
theorem dX6_isNear_36 : decode cX6_isNear 36 = .ok (.sipush 156, 3) := by decide +kernel
theorem dX6_isNear_39 : decode cX6_isNear 39 = .ok (.iload 5, 2) := by decide +kernel
theorem dX6_isNear_41 : decode cX6_isNear 41 = .ok (.iadd, 1) := by decide +kernel
theorem dX6_isNear_42 : decode cX6_isNear 42 = .ok (.iaload, 1) := by decide +kernel
theorem dX6_isNear_43 : decode cX6_isNear 43 = .ok (.isub, 1) := by decide +kernel
theorem dX6_isNear_44 : decode cX6_isNear 44 = .ok (.istore 6, 2) := by decide +kernel
theorem dX6_isNear_46 : decode cX6_isNear 46 = .ok (.iload_n 2, 1) := by decide +kernel
theorem dX6_isNear_47 : decode cX6_isNear 47 = .ok (.iload 5, 2) := by decide +kernel
theorem dX6_isNear_49 : decode cX6_isNear 49 = .ok (.ishr, 1) := by decide +kernel
theorem dX6_isNear_50 : decode cX6_isNear 50 = .ok (.iconst 1, 1) := by decide +kernel
theorem dX6_isNear_51 : decode cX6_isNear 51 = .ok (.iand, 1) := by decide +kernel
theorem dX6_isNear_52 : decode cX6_isNear 52 = .ok (.iconst 1, 1) := by decide +kernel
theorem dX6_isNear_53 : decode cX6_isNear 53 = .ok (.if_icmp .ne 24, 3) := by decide +kernel
theorem dX6_isNear_56 : decode cX6_isNear 56 = .ok (.iload 6, 2) := by decide +kernel
theorem dX6_isNear_58 : decode cX6_isNear 58 = .ok (.ifCond .ge 9, 3) := by decide +kernel
theorem dX6_isNear_61 : decode cX6_isNear 61 = .ok (.iload 6, 2) := by decide +kernel
theorem dX6_isNear_63 : decode cX6_isNear 63 = .ok (.ineg, 1) := by decide +kernel
theorem dX6_isNear_64 : decode cX6_isNear 64 = .ok (.goto 5, 3) := by decide +kernel
theorem dX6_isNear_67 : decode cX6_isNear 67 = .ok (.iload 6, 2) := by decide +kernel
theorem dX6_isNear_69 : decode cX6_isNear 69 = .ok (.iload_n 3, 1) := by decide +kernel
theorem dX6_isNear_70 : decode cX6_isNear 70 = .ok (.if_icmp .gt 7, 3) := by decide +kernel
theorem dX6_isNear_73 : decode cX6_isNear 73 = .ok (.iconst 1, 1) := by decide +kernel
theorem dX6_isNear_74 : decode cX6_isNear 74 = .ok (.goto 4, 3) := by decide +kernel
theorem dX6_isNear_77 : decode cX6_isNear 77 = .ok (.iconst 0, 1) := by decide +kernel
theorem dX6_isNear_78 : decode cX6_isNear 78 = .ok (.istore 4, 2) := by decide +kernel
theorem dX6_isNear_80 : decode cX6_isNear 80 = .ok (.iinc 5 1, 3) := by decide +kernel
theorem dX6_isNear_83 : decode cX6_isNear 83 = .ok (.goto (-77), 3) := by decide +kernel
theorem dX6_isNear_86 : decode cX6_isNear 86 = .ok (.iload 4, 2) := by decide +kernel
theorem dX6_isNear_88 : decode cX6_isNear 88 = .ok (.ireturn, 1) := by decide +kernel
set_option maxRecDepth 20000 in
theorem ggX6_spread_X6_isTale : GoodIn wsX6_spread wsX6_isTale := goodIn_r _ [6, 1, 7, 8, 5, 9, 52, 53, 54, 55, 56, 57, 58, 59, 60, 61, 62, 63, 64, 65, 66, 67, 68, 69, 70, 71] (by decide +kernel) (by decide +kernel)
set_option maxRecDepth 20000 in
theorem gX6_spread_X6_isTale : GoodIn wsX6_spread (wsV RX6 102 RX6 yX6_isTale wsX6_isTale) := goodIn_app (goodIn_of _ (by decide +kernel)) ggX6_spread_X6_isTale
set_option maxRecDepth 20000 in
theorem ggX6_spread_X6_isAge : GoodIn wsX6_spread wsX6_isAge := goodIn_r _ [12, 7, 8, 5, 9] (by decide +kernel) (by decide +kernel)
set_option maxRecDepth 20000 in
theorem gX6_spread_X6_isAge : GoodIn wsX6_spread (va_wsS RX6 135 yX6_isAge wsX6_isAge) := goodIn_app (goodIn_of _ (by decide +kernel)) ggX6_spread_X6_isAge
set_option maxRecDepth 20000 in
theorem ggX6_spread_X6_no : GoodIn wsX6_spread wsX6_no := goodIn_r _ [16, 17, 18, 52, 53, 54, 55, 56, 57, 58, 59, 60, 61, 62, 63, 64, 65, 66, 67, 68, 69, 70, 71] (by decide +kernel) (by decide +kernel)
set_option maxRecDepth 20000 in
theorem gX6_spread_X6_no : GoodIn wsX6_spread (wsV RX6 68 RX6 yX6_no wsX6_no) := goodIn_app (goodIn_of _ (by decide +kernel)) ggX6_spread_X6_no
set_option maxRecDepth 20000 in
theorem ggX6_spread_X6_toWhom : GoodIn wsX6_spread wsX6_toWhom := goodIn_r _ [22, 1, 23, 24, 25, 26, 5, 27, 28, 29, 30, 31, 32, 33, 34, 35, 36, 37, 38, 39, 40, 41, 42, 43, 44, 45, 46, 47, 52, 53, 54, 55, 56, 57, 58, 59, 60, 61, 62, 63, 64, 65, 66, 67, 68, 69, 70, 71] (by decide +kernel) (by decide +kernel)
set_option maxRecDepth 20000 in
theorem gX6_spread_X6_toWhom : GoodIn wsX6_spread (wsV RX6 141 RX6 yX6_toWhom wsX6_toWhom) := goodIn_app (goodIn_of _ (by decide +kernel)) ggX6_spread_X6_toWhom
set_option maxRecDepth 20000 in
theorem ggX6_spread_X6_isNear : GoodIn wsX6_spread wsX6_isNear := goodIn_r _ [51, 1, 52, 53, 54, 55, 56, 57, 58, 59, 60, 61, 62, 63, 64, 65, 66, 67, 68, 69, 70, 71] (by decide +kernel) (by decide +kernel)
set_option maxRecDepth 20000 in
theorem gX6_spread_X6_isNear : GoodIn wsX6_spread (wsV RX6 167 RX6 yX6_isNear wsX6_isNear) := goodIn_app (goodIn_of _ (by decide +kernel)) ggX6_spread_X6_isNear
theorem dX6_spread_0 : decode cX6_spread 0 = .ok (.aload_n 0, 1) := by decide +kernel
theorem dX6_spread_1 : decode cX6_spread 1 = .ok (.iload_n 1, 1) := by decide +kernel
theorem dX6_spread_2 : decode cX6_spread 2 = .ok (.invokevirtual 102, 3) := by decide +kernel
theorem dX6_spread_5 : decode cX6_spread 5 = .ok (.ifCond .eq 10, 3) := by decide +kernel
theorem dX6_spread_8 : decode cX6_spread 8 = .ok (.iload_n 2, 1) := by decide +kernel
theorem dX6_spread_9 : decode cX6_spread 9 = .ok (.invokestatic 135, 3) := by decide +kernel
theorem dX6_spread_12 : decode cX6_spread 12 = .ok (.ifCond .ne 9, 3) := by decide +kernel
theorem dX6_spread_15 : decode cX6_spread 15 = .ok (.aload_n 0, 1) := by decide +kernel
theorem dX6_spread_16 : decode cX6_spread 16 = .ok (.iconst 0, 1) := by decide +kernel
theorem dX6_spread_17 : decode cX6_spread 17 = .ok (.invokevirtual 68, 3) := by decide +kernel
theorem dX6_spread_20 : decode cX6_spread 20 = .ok (.ireturn, 1) := by decide +kernel
theorem dX6_spread_21 : decode cX6_spread 21 = .ok (.aload_n 0, 1) := by decide +kernel
theorem dX6_spread_22 : decode cX6_spread 22 = .ok (.getfield 9, 3) := by decide +kernel
theorem dX6_spread_25 : decode cX6_spread 25 = .ok (.iconst 3, 1) := by decide +kernel
theorem dX6_spread_26 : decode cX6_spread 26 = .ok (.iaload, 1) := by decide +kernel
theorem dX6_spread_27 : decode cX6_spread 27 = .ok (.ifCond .ne 9, 3) := by decide +kernel
theorem dX6_spread_30 : decode cX6_spread 30 = .ok (.aload_n 0, 1) := by decide +kernel
theorem dX6_spread_31 : decode cX6_spread 31 = .ok (.iconst 3, 1) := by decide +kernel
theorem dX6_spread_32 : decode cX6_spread 32 = .ok (.invokevirtual 68, 3) := by decide +kernel
theorem dX6_spread_35 : decode cX6_spread 35 = .ok (.ireturn, 1) := by decide +kernel
theorem dX6_spread_36 : decode cX6_spread 36 = .ok (.aload_n 0, 1) := by decide +kernel
theorem dX6_spread_37 : decode cX6_spread 37 = .ok (.iload_n 1, 1) := by decide +kernel
theorem dX6_spread_38 : decode cX6_spread 38 = .ok (.invokevirtual 141, 3) := by decide +kernel
theorem dX6_spread_41 : decode cX6_spread 41 = .ok (.istore_n 3, 1) := by decide +kernel
theorem dX6_spread_42 : decode cX6_spread 42 = .ok (.iconst 1, 1) := by decide +kernel
theorem dX6_spread_43 : decode cX6_spread 43 = .ok (.istore 4, 2) := by decide +kernel
theorem dX6_spread_45 : decode cX6_spread 45 = .ok (.iconst 0, 1) := by decide +kernel
theorem dX6_spread_46 : decode cX6_spread 46 = .ok (.istore 5, 2) := by decide +kernel
theorem dX6_spread_48 : decode cX6_spread 48 = .ok (.iload 5, 2) := by decide +kernel
theorem dX6_spread_50 : decode cX6_spread 50 = .ok (.bipush 10, 2) := by decide +kernel
theorem dX6_spread_52 : decode cX6_spread 52 = .ok (.if_icmp .ge 72, 3) := by decide +kernel
theorem dX6_spread_55 : decode cX6_spread 55 = .ok (.iload 4, 2) := by decide +kernel
theorem dX6_spread_57 : decode cX6_spread 57 = .ok (.istore 6, 2) := by decide +kernel
theorem dX6_spread_59 : decode cX6_spread 59 = .ok (.iconst 0, 1) := by decide +kernel
theorem dX6_spread_60 : decode cX6_spread 60 = .ok (.istore 7, 2) := by decide +kernel
theorem dX6_spread_62 : decode cX6_spread 62 = .ok (.iload 7, 2) := by decide +kernel
theorem dX6_spread_64 : decode cX6_spread 64 = .ok (.aload_n 0, 1) := by decide +kernel
theorem dX6_spread_65 : decode cX6_spread 65 = .ok (.getfield 9, 3) := by decide +kernel
theorem dX6_spread_68 : decode cX6_spread 68 = .ok (.iconst 3, 1) := by decide +kernel
theorem dX6_spread_69 : decode cX6_spread 69 = .ok (.iaload, 1) := by decide +kernel
theorem dX6_spread_70 : decode cX6_spread 70 = .ok (.if_icmp .ge 44, 3) := by decide +kernel
theorem dX6_spread_73 : decode cX6_spread 73 = .ok (.iload 6, 2) := by decide +kernel
theorem dX6_spread_75 : decode cX6_spread 75 = .ok (.iload_n 3, 1) := by decide +kernel
theorem dX6_spread_76 : decode cX6_spread 76 = .ok (.iload 7, 2) := by decide +kernel
theorem dX6_spread_78 : decode cX6_spread 78 = .ok (.ishr, 1) := by decide +kernel
theorem dX6_spread_79 : decode cX6_spread 79 = .ok (.iconst 1, 1) := by decide +kernel
theorem dX6_spread_80 : decode cX6_spread 80 = .ok (.iand, 1) := by decide +kernel
theorem dX6_spread_81 : decode cX6_spread 81 = .ok (.iconst 1, 1) := by decide +kernel
theorem dX6_spread_82 : decode cX6_spread 82 = .ok (.if_icmp .ne 22, 3) := by decide +kernel
theorem dX6_spread_85 : decode cX6_spread 85 = .ok (.aload_n 0, 1) := by decide +kernel
theorem dX6_spread_86 : decode cX6_spread 86 = .ok (.iload 7, 2) := by decide +kernel
theorem dX6_spread_88 : decode cX6_spread 88 = .ok (.iload 4, 2) := by decide +kernel
theorem dX6_spread_90 : decode cX6_spread 90 = .ok (.iload_n 2, 1) := by decide +kernel
theorem dX6_spread_91 : decode cX6_spread 91 = .ok (.invokevirtual 167, 3) := by decide +kernel
theorem dX6_spread_94 : decode cX6_spread 94 = .ok (.ifCond .eq 10, 3) := by decide +kernel
theorem dX6_spread_97 : decode cX6_spread 97 = .ok (.iconst 1, 1) := by decide +kernel
theorem dX6_spread_98 : decode cX6_spread 98 = .ok (.iload 7, 2) := by decide +kernel
theorem dX6_spread_100 : decode cX6_spread 100 = .ok (.ishl, 1) := by decide +kernel
theorem dX6_spread_101 : decode cX6_spread 101 = .ok (.goto 4, 3) := by decide +kernel
theorem dX6_spread_104 : decode cX6_spread 104 = .ok (.iconst 0, 1) := by decide +kernel
theorem dX6_spread_105 : decode cX6_spread 105 = .ok (.ior, 1) := by decide +kernel
theorem dX6_spread_106 : decode cX6_spread 106 = .ok (.istore 6, 2) := by decide +kernel
theorem dX6_spread_108 : decode cX6_spread 108 = .ok (.iinc 7 1, 3) := by decide +kernel
theorem dX6_spread_111 : decode cX6_spread 111 = .ok (.goto (-49), 3) := by decide +kernel
theorem dX6_spread_114 : decode cX6_spread 114 = .ok (.iload 6, 2) := by decide +kernel
theorem dX6_spread_116 : decode cX6_spread 116 = .ok (.istore 4, 2) := by decide +kernel
theorem dX6_spread_118 : decode cX6_spread 118 = .ok (.iinc 5 1, 3) := by decide +kernel
theorem dX6_spread_121 : decode cX6_spread 121 = .ok (.goto (-73), 3) := by decide +kernel
theorem dX6_spread_124 : decode cX6_spread 124 = .ok (.iload 4, 2) := by decide +kernel
theorem dX6_spread_126 : decode cX6_spread 126 = .ok (.ireturn, 1) := by decide +kernel
set_option maxRecDepth 20000 in
theorem ggX6_feed_X6_in : GoodIn wsX6_feed wsX6_in := goodIn_r _ [6] (by decide +kernel) (by decide +kernel)
set_option maxRecDepth 20000 in
theorem gX6_feed_X6_in : GoodIn wsX6_feed (va_wsS RX6 57 yX6_in wsX6_in) := goodIn_app (goodIn_of _ (by decide +kernel)) ggX6_feed_X6_in
set_option maxRecDepth 20000 in
theorem ggX6_feed_X6_no : GoodIn wsX6_feed wsX6_no := goodIn_r _ [10, 11, 12, 13, 14, 15, 16, 17, 18, 19, 20, 21, 22, 23, 24, 25, 26, 27, 28, 29, 30, 31, 32] (by decide +kernel) (by decide +kernel)
set_option maxRecDepth 20000 in
theorem gX6_feed_X6_no : GoodIn wsX6_feed (wsV RX6 68 RX6 yX6_no wsX6_no) := goodIn_app (goodIn_of _ (by decide +kernel)) ggX6_feed_X6_no
theorem dX6_feed_0 : decode cX6_feed 0 = .ok (.iload_n 2, 1) := by decide +kernel
theorem dX6_feed_1 : decode cX6_feed 1 = .ok (.iconst 1, 1) := by decide +kernel
theorem dX6_feed_2 : decode cX6_feed 2 = .ok (.iconst 4, 1) := by decide +kernel
theorem dX6_feed_3 : decode cX6_feed 3 = .ok (.invokestatic 57, 3) := by decide +kernel
theorem dX6_feed_6 : decode cX6_feed 6 = .ok (.ifCond .ne 9, 3) := by decide +kernel
theorem dX6_feed_9 : decode cX6_feed 9 = .ok (.aload_n 0, 1) := by decide +kernel
theorem dX6_feed_10 : decode cX6_feed 10 = .ok (.iconst 0, 1) := by decide +kernel
theorem dX6_feed_11 : decode cX6_feed 11 = .ok (.invokevirtual 68, 3) := by decide +kernel
theorem dX6_feed_14 : decode cX6_feed 14 = .ok (.ireturn, 1) := by decide +kernel
theorem dX6_feed_15 : decode cX6_feed 15 = .ok (.aload_n 0, 1) := by decide +kernel
theorem dX6_feed_16 : decode cX6_feed 16 = .ok (.getfield 170, 3) := by decide +kernel
theorem dX6_feed_19 : decode cX6_feed 19 = .ok (.iload_n 2, 1) := by decide +kernel
theorem dX6_feed_20 : decode cX6_feed 20 = .ok (.iadd, 1) := by decide +kernel
theorem dX6_feed_21 : decode cX6_feed 21 = .ok (.bipush 120, 2) := by decide +kernel
theorem dX6_feed_23 : decode cX6_feed 23 = .ok (.if_icmp .le 9, 3) := by decide +kernel
theorem dX6_feed_26 : decode cX6_feed 26 = .ok (.aload_n 0, 1) := by decide +kernel
theorem dX6_feed_27 : decode cX6_feed 27 = .ok (.iconst 1, 1) := by decide +kernel
theorem dX6_feed_28 : decode cX6_feed 28 = .ok (.invokevirtual 68, 3) := by decide +kernel
theorem dX6_feed_31 : decode cX6_feed 31 = .ok (.ireturn, 1) := by decide +kernel
theorem dX6_feed_32 : decode cX6_feed 32 = .ok (.iload_n 2, 1) := by decide +kernel
theorem dX6_feed_33 : decode cX6_feed 33 = .ok (.iconst 1, 1) := by decide +kernel
theorem dX6_feed_34 : decode cX6_feed 34 = .ok (.isub, 1) := by decide +kernel
theorem dX6_feed_35 : decode cX6_feed 35 = .ok (.istore_n 3, 1) := by decide +kernel
theorem dX6_feed_36 : decode cX6_feed 36 = .ok (.iload_n 3, 1) := by decide +kernel
theorem dX6_feed_37 : decode cX6_feed 37 = .ok (.ifCond .lt 38, 3) := by decide +kernel
theorem dX6_feed_40 : decode cX6_feed 40 = .ok (.aload_n 0, 1) := by decide +kernel
theorem dX6_feed_41 : decode cX6_feed 41 = .ok (.getfield 41, 3) := by decide +kernel
theorem dX6_feed_44 : decode cX6_feed 44 = .ok (.aload_n 0, 1) := by decide +kernel
theorem dX6_feed_45 : decode cX6_feed 45 = .ok (.getfield 170, 3) := by decide +kernel
theorem dX6_feed_48 : decode cX6_feed 48 = .ok (.iload_n 1, 1) := by decide +kernel
theorem dX6_feed_49 : decode cX6_feed 49 = .ok (.bipush 8, 2) := by decide +kernel
theorem dX6_feed_51 : decode cX6_feed 51 = .ok (.iload_n 3, 1) := by decide +kernel
theorem dX6_feed_52 : decode cX6_feed 52 = .ok (.imul, 1) := by decide +kernel
theorem dX6_feed_53 : decode cX6_feed 53 = .ok (.ishr, 1) := by decide +kernel
theorem dX6_feed_54 : decode cX6_feed 54 = .ok (.sipush 255, 3) := by decide +kernel
theorem dX6_feed_57 : decode cX6_feed 57 = .ok (.iand, 1) := by decide +kernel
theorem dX6_feed_58 : decode cX6_feed 58 = .ok (.iastore, 1) := by decide +kernel
theorem dX6_feed_59 : decode cX6_feed 59 = .ok (.aload_n 0, 1) := by decide +kernel
theorem dX6_feed_60 : decode cX6_feed 60 = .ok (.dup, 1) := by decide +kernel
theorem dX6_feed_61 : decode cX6_feed 61 = .ok (.getfield 170, 3) := by decide +kernel
theorem dX6_feed_64 : decode cX6_feed 64 = .ok (.iconst 1, 1) := by decide +kernel
theorem dX6_feed_65 : decode cX6_feed 65 = .ok (.iadd, 1) := by decide +kernel
theorem dX6_feed_66 : decode cX6_feed 66 = .ok (.putfield 170, 3) := by decide +kernel
theorem dX6_feed_69 : decode cX6_feed 69 = .ok (.iinc 3 (-1), 3) := by decide +kernel
theorem dX6_feed_72 : decode cX6_feed 72 = .ok (.goto (-36), 3) := by decide +kernel
theorem dX6_feed_75 : decode cX6_feed 75 = .ok (.aload_n 0, 1) := by decide +kernel
theorem dX6_feed_76 : decode cX6_feed 76 = .ok (.getfield 170, 3) := by decide +kernel
theorem dX6_feed_79 : decode cX6_feed 79 = .ok (.ireturn, 1) := by decide +kernel
theorem dX6_wipe_0 : decode cX6_wipe 0 = .ok (.aload_n 0, 1) := by decide +kernel
theorem dX6_wipe_1 : decode cX6_wipe 1 = .ok (.getfield 170, 3) := by decide +kernel
theorem dX6_wipe_4 : decode cX6_wipe 4 = .ok (.istore_n 1, 1) := by decide +kernel
theorem dX6_wipe_5 : decode cX6_wipe 5 = .ok (.aload_n 0, 1) := by decide +kernel
theorem dX6_wipe_6 : decode cX6_wipe 6 = .ok (.iconst 0, 1) := by decide +kernel
theorem dX6_wipe_7 : decode cX6_wipe 7 = .ok (.putfield 170, 3) := by decide +kernel
theorem dX6_wipe_10 : decode cX6_wipe 10 = .ok (.iload_n 1, 1) := by decide +kernel
theorem dX6_wipe_11 : decode cX6_wipe 11 = .ok (.ireturn, 1) := by decide +kernel
theorem dX6_byteAt_0 : decode cX6_byteAt 0 = .ok (.iload_n 1, 1) := by decide +kernel
theorem dX6_byteAt_1 : decode cX6_byteAt 1 = .ok (.aload_n 0, 1) := by decide +kernel
theorem dX6_byteAt_2 : decode cX6_byteAt 2 = .ok (.getfield 170, 3) := by decide +kernel
theorem dX6_byteAt_5 : decode cX6_byteAt 5 = .ok (.if_icmp .ge 12, 3) := by decide +kernel
theorem dX6_byteAt_8 : decode cX6_byteAt 8 = .ok (.aload_n 0, 1) := by decide +kernel
theorem dX6_byteAt_9 : decode cX6_byteAt 9 = .ok (.getfield 41, 3) := by decide +kernel
theorem dX6_byteAt_12 : decode cX6_byteAt 12 = .ok (.iload_n 1, 1) := by decide +kernel
theorem dX6_byteAt_13 : decode cX6_byteAt 13 = .ok (.iaload, 1) := by decide +kernel
theorem dX6_byteAt_14 : decode cX6_byteAt 14 = .ok (.goto 4, 3) := by decide +kernel
theorem dX6_byteAt_17 : decode cX6_byteAt 17 = .ok (.iconst (-1), 1) := by decide +kernel
theorem dX6_byteAt_18 : decode cX6_byteAt 18 = .ok (.ireturn, 1) := by decide +kernel
set_option maxRecDepth 20000 in
theorem ggX6_blanks_X6_byteAt : GoodIn wsX6_blanks wsX6_byteAt := goodIn_r _ [6, 7, 8, 9, 10, 11, 12, 13, 14, 15, 16, 17, 18, 19, 20, 21, 22, 23, 24, 25, 26, 27, 28] (by decide +kernel) (by decide +kernel)
set_option maxRecDepth 20000 in
theorem gX6_blanks_X6_byteAt : GoodIn wsX6_blanks (wsV RX6 177 RX6 yX6_byteAt wsX6_byteAt) := goodIn_app (goodIn_of _ (by decide +kernel)) ggX6_blanks_X6_byteAt
theorem dX6_blanks_0 : decode cX6_blanks 0 = .ok (.aload_n 0, 1) := by decide +kernel
theorem dX6_blanks_1 : decode cX6_blanks 1 = .ok (.aload_n 0, 1) := by decide +kernel
theorem dX6_blanks_2 : decode cX6_blanks 2 = .ok (.getfield 174, 3) := by decide +kernel
theorem dX6_blanks_5 : decode cX6_blanks 5 = .ok (.invokevirtual 177, 3) := by decide +kernel
theorem dX6_blanks_8 : decode cX6_blanks 8 = .ok (.bipush 32, 2) := by decide +kernel
theorem dX6_blanks_10 : decode cX6_blanks 10 = .ok (.if_icmp .ne 16, 3) := by decide +kernel
theorem dX6_blanks_13 : decode cX6_blanks 13 = .ok (.aload_n 0, 1) := by decide +kernel
theorem dX6_blanks_14 : decode cX6_blanks 14 = .ok (.dup, 1) := by decide +kernel
theorem dX6_blanks_15 : decode cX6_blanks 15 = .ok (.getfield 174, 3) := by decide +kernel
theorem dX6_blanks_18 : decode cX6_blanks 18 = .ok (.iconst 1, 1) := by decide +kernel
theorem dX6_blanks_19 : decode cX6_blanks 19 = .ok (.iadd, 1) := by decide +kernel
theorem dX6_blanks_20 : decode cX6_blanks 20 = .ok (.putfield 174, 3) := by decide +kernel
theorem dX6_blanks_23 : decode cX6_blanks 23 = .ok (.goto (-23), 3) := by decide +kernel
