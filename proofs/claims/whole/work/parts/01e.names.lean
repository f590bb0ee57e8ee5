theorem dX6_isPart_13 : decode cX6_isPart 13 = .ok (.ireturn, 1) := by decide +kernel
set_option maxRecDepth 20000 in
theorem ggX6_isTale_X6_in : GoodIn wsX6_isTale wsX6_in := goodIn_r _ [5] (by decide +kernel) (by decide +kernel)
set_option maxRecDepth 20000 in
theorem gX6_isTale_X6_in : GoodIn wsX6_isTale (va_wsS RX6 57 yX6_in wsX6_in) := goodIn_app (goodIn_of _ (by decide +kernel)) ggX6_isTale_X6_in
theorem dX6_isTale_0 : decode cX6_isTale 0 = .ok (.iload_n 1, 1) := by decide +kernel
theorem dX6_isTale_1 : decode cX6_isTale 1 = .ok (.iconst 0, 1) := by decide +kernel
theorem dX6_isTale_2 : decode cX6_isTale 2 = .ok (.aload_n 0, 1) := by decide +kernel
theorem dX6_isTale_3 : decode cX6_isTale 3 = .ok (.getfield 9, 3) := by decide +kernel
theorem dX6_isTale_6 : decode cX6_isTale 6 = .ok (.iconst 2, 1) := by decide +kernel
theorem dX6_isTale_7 : decode cX6_isTale 7 = .ok (.iaload, 1) := by decide +kernel
theorem dX6_isTale_8 : decode cX6_isTale 8 = .ok (.iconst 1, 1) := by decide +kernel
theorem dX6_isTale_9 : decode cX6_isTale 9 = .ok (.isub, 1) := by decide +kernel
theorem dX6_isTale_10 : decode cX6_isTale 10 = .ok (.invokestatic 57, 3) := by decide +kernel
theorem dX6_isTale_13 : decode cX6_isTale 13 = .ok (.ireturn, 1) := by decide +kernel
set_option maxRecDepth 20000 in
theorem ggX6_isHearer_X6_in : GoodIn wsX6_isHearer wsX6_in := goodIn_r _ [5] (by decide +kernel) (by decide +kernel)
set_option maxRecDepth 20000 in
theorem gX6_isHearer_X6_in : GoodIn wsX6_isHearer (va_wsS RX6 57 yX6_in wsX6_in) := goodIn_app (goodIn_of _ (by decide +kernel)) ggX6_isHearer_X6_in
theorem dX6_isHearer_0 : decode cX6_isHearer 0 = .ok (.iload_n 1, 1) := by decide +kernel
theorem dX6_isHearer_1 : decode cX6_isHearer 1 = .ok (.iconst 0, 1) := by decide +kernel
theorem dX6_isHearer_2 : decode cX6_isHearer 2 = .ok (.aload_n 0, 1) := by decide +kernel
theorem dX6_isHearer_3 : decode cX6_isHearer 3 = .ok (.getfield 9, 3) := by decide +kernel
theorem dX6_isHearer_6 : decode cX6_isHearer 6 = .ok (.iconst 3, 1) := by decide +kernel
theorem dX6_isHearer_7 : decode cX6_isHearer 7 = .ok (.iaload, 1) := by decide +kernel
theorem dX6_isHearer_8 : decode cX6_isHearer 8 = .ok (.iconst 1, 1) := by decide +kernel
theorem dX6_isHearer_9 : decode cX6_isHearer 9 = .ok (.isub, 1) := by decide +kernel
theorem dX6_isHearer_10 : decode cX6_isHearer 10 = .ok (.invokestatic 57, 3) := by decide +kernel
theorem dX6_isHearer_13 : decode cX6_isHearer 13 = .ok (.ireturn, 1) := by decide +kernel
set_option maxRecDepth 20000 in
theorem ggX6_isKind_X6_in : GoodIn wsX6_isKind wsX6_in := goodIn_r _ [4] (by decide +kernel) (by decide +kernel)
set_option maxRecDepth 20000 in
theorem gX6_isKind_X6_in : GoodIn wsX6_isKind (va_wsS RX6 57 yX6_in wsX6_in) := goodIn_app (goodIn_of _ (by decide +kernel)) ggX6_isKind_X6_in
theorem dX6_isKind_0 : decode cX6_isKind 0 = .ok (.iload_n 0, 1) := by decide +kernel
theorem dX6_isKind_1 : decode cX6_isKind 1 = .ok (.iconst 0, 1) := by decide +kernel
theorem dX6_isKind_2 : decode cX6_isKind 2 = .ok (.iconst 5, 1) := by decide +kernel
theorem dX6_isKind_3 : decode cX6_isKind 3 = .ok (.invokestatic 57, 3) := by decide +kernel
theorem dX6_isKind_6 : decode cX6_isKind 6 = .ok (.ireturn, 1) := by decide +kernel
set_option maxRecDepth 20000 in
theorem ggX6_isWords_X6_in : GoodIn wsX6_isWords wsX6_in := goodIn_r _ [4] (by decide +kernel) (by decide +kernel)
set_option maxRecDepth 20000 in
theorem gX6_isWords_X6_in : GoodIn wsX6_isWords (va_wsS RX6 57 yX6_in wsX6_in) := goodIn_app (goodIn_of _ (by decide +kernel)) ggX6_isWords_X6_in
theorem dX6_isWords_0 : decode cX6_isWords 0 = .ok (.iload_n 0, 1) := by decide +kernel
theorem dX6_isWords_1 : decode cX6_isWords 1 = .ok (.iconst 0, 1) := by decide +kernel
theorem dX6_isWords_2 : decode cX6_isWords 2 = .ok (.bipush 120, 2) := by decide +kernel
theorem dX6_isWords_4 : decode cX6_isWords 4 = .ok (.invokestatic 57, 3) := by decide +kernel
theorem dX6_isWords_7 : decode cX6_isWords 7 = .ok (.ireturn, 1) := by decide +kernel
set_option maxRecDepth 20000 in
theorem ggX6_isAge_X6_in : GoodIn wsX6_isAge wsX6_in := goodIn_r _ [4] (by decide +kernel) (by decide +kernel)
set_option maxRecDepth 20000 in
theorem gX6_isAge_X6_in : GoodIn wsX6_isAge (va_wsS RX6 57 yX6_in wsX6_in) := goodIn_app (goodIn_of _ (by decide +kernel)) ggX6_isAge_X6_in
theorem dX6_isAge_0 : decode cX6_isAge 0 = .ok (.iload_n 0, 1) := by decide +kernel
theorem dX6_isAge_1 : decode cX6_isAge 1 = .ok (.iconst 0, 1) := by decide +kernel
theorem dX6_isAge_2 : decode cX6_isAge 2 = .ok (.bipush 99, 2) := by decide +kernel
theorem dX6_isAge_4 : decode cX6_isAge 4 = .ok (.invokestatic 57, 3) := by decide +kernel
theorem dX6_isAge_7 : decode cX6_isAge 7 = .ok (.ireturn, 1) := by decide +kernel
theorem dX6_has_0 : decode cX6_has 0 = .ok (.aload_n 0, 1) := by decide +kernel
theorem dX6_has_1 : decode cX6_has 1 = .ok (.getfield 9, 3) := by decide +kernel
theorem dX6_has_4 : decode cX6_has 4 = .ok (.iconst 4, 1) := by decide +kernel
theorem dX6_has_5 : decode cX6_has 5 = .ok (.iconst 4, 1) := by decide +kernel
theorem dX6_has_6 : decode cX6_has 6 = .ok (.iload_n 1, 1) := by decide +kernel
theorem dX6_has_7 : decode cX6_has 7 = .ok (.imul, 1) := by decide +kernel
theorem dX6_has_8 : decode cX6_has 8 = .ok (.iadd, 1) := by decide +kernel
theorem dX6_has_9 : decode cX6_has 9 = .ok (.iload_n 2, 1) := by decide +kernel
theorem dX6_has_10 : decode cX6_has 10 = .ok (.iadd, 1) := by decide +kernel
theorem dX6_has_11 : decode cX6_has 11 = .ok (.iaload, 1) := by decide +kernel
theorem dX6_has_12 : decode cX6_has 12 = .ok (.ireturn, 1) := by decide +kernel
set_option maxRecDepth 20000 in
theorem ggX6_isPartly_X6_in : GoodIn wsX6_isPartly wsX6_in := goodIn_r _ [4] (by decide +kernel) (by decide +kernel)
set_option maxRecDepth 20000 in
theorem gX6_isPartly_X6_in : GoodIn wsX6_isPartly (va_wsS RX6 57 yX6_in wsX6_in) := goodIn_app (goodIn_of _ (by decide +kernel)) ggX6_isPartly_X6_in
theorem dX6_isPartly_0 : decode cX6_isPartly 0 = .ok (.iload_n 0, 1) := by decide +kernel
theorem dX6_isPartly_1 : decode cX6_isPartly 1 = .ok (.iconst 1, 1) := by decide +kernel
theorem dX6_isPartly_2 : decode cX6_isPartly 2 = .ok (.bipush 12, 2) := by decide +kernel
theorem dX6_isPartly_4 : decode cX6_isPartly 4 = .ok (.invokestatic 57, 3) := by decide +kernel
theorem dX6_isPartly_7 : decode cX6_isPartly 7 = .ok (.ifCond .eq 27, 3) := by decide +kernel
theorem dX6_isPartly_10 : decode cX6_isPartly 10 = .ok (.iload_n 1, 1) := by decide +kernel
theorem dX6_isPartly_11 : decode cX6_isPartly 11 = .ok (.iload_n 0, 1) := by decide +kernel
theorem dX6_isPartly_12 : decode cX6_isPartly 12 = .ok (.bipush 12, 2) := by decide +kernel
theorem dX6_isPartly_14 : decode cX6_isPartly 14 = .ok (.invokestatic 57, 3) := by decide +kernel
theorem dX6_isPartly_17 : decode cX6_isPartly 17 = .ok (.ifCond .eq 17, 3) := by decide +kernel
theorem dX6_isPartly_20 : decode cX6_isPartly 20 = .ok (.iload_n 2, 1) := by decide +kernel
theorem dX6_isPartly_21 : decode cX6_isPartly 21 = .ok (.iconst 0, 1) := by decide +kernel
theorem dX6_isPartly_22 : decode cX6_isPartly 22 = .ok (.bipush 9, 2) := by decide +kernel
theorem dX6_isPartly_24 : decode cX6_isPartly 24 = .ok (.invokestatic 57, 3) := by decide +kernel
theorem dX6_isPartly_27 : decode cX6_isPartly 27 = .ok (.ifCond .eq 7, 3) := by decide +kernel
theorem dX6_isPartly_30 : decode cX6_isPartly 30 = .ok (.iconst 1, 1) := by decide +kernel
theorem dX6_isPartly_31 : decode cX6_isPartly 31 = .ok (.goto 4, 3) := by decide +kernel
theorem dX6_isPartly_34 : decode cX6_isPartly 34 = .ok (.iconst 0, 1) := by decide +kernel
theorem dX6_isPartly_35 : decode cX6_isPartly 35 = .ok (.ireturn, 1) := by decide +kernel
theorem dX6_adds_0 : decode cX6_adds 0 = .ok (.iconst 4, 1) := by decide +kernel
theorem dX6_adds_1 : decode cX6_adds 1 = .ok (.iconst 4, 1) := by decide +kernel
theorem dX6_adds_2 : decode cX6_adds 2 = .ok (.aload_n 0, 1) := by decide +kernel
theorem dX6_adds_3 : decode cX6_adds 3 = .ok (.getfield 9, 3) := by decide +kernel
theorem dX6_adds_6 : decode cX6_adds 6 = .ok (.iconst 1, 1) := by decide +kernel
theorem dX6_adds_7 : decode cX6_adds 7 = .ok (.iaload, 1) := by decide +kernel
theorem dX6_adds_8 : decode cX6_adds 8 = .ok (.imul, 1) := by decide +kernel
theorem dX6_adds_9 : decode cX6_adds 9 = .ok (.iadd, 1) := by decide +kernel
theorem dX6_adds_10 : decode cX6_adds 10 = .ok (.istore 5, 2) := by decide +kernel
theorem dX6_adds_12 : decode cX6_adds 12 = .ok (.aload_n 0, 1) := by decide +kernel
theorem dX6_adds_13 : decode cX6_adds 13 = .ok (.getfield 9, 3) := by decide +kernel
theorem dX6_adds_16 : decode cX6_adds 16 = .ok (.iload 5, 2) := by decide +kernel
theorem dX6_adds_18 : decode cX6_adds 18 = .ok (.iconst 0, 1) := by decide +kernel
theorem dX6_adds_19 : decode cX6_adds 19 = .ok (.iadd, 1) := by decide +kernel
theorem dX6_adds_20 : decode cX6_adds 20 = .ok (.iload_n 1, 1) := by decide +kernel
theorem dX6_adds_21 : decode cX6_adds 21 = .ok (.iastore, 1) := by decide +kernel
theorem dX6_adds_22 : decode cX6_adds 22 = .ok (.aload_n 0, 1) := by decide +kernel
theorem dX6_adds_23 : decode cX6_adds 23 = .ok (.getfield 9, 3) := by decide +kernel
theorem dX6_adds_26 : decode cX6_adds 26 = .ok (.iload 5, 2) := by decide +kernel
theorem dX6_adds_28 : decode cX6_adds 28 = .ok (.iconst 1, 1) := by decide +kernel
theorem dX6_adds_29 : decode cX6_adds 29 = .ok (.iadd, 1) := by decide +kernel
theorem dX6_adds_30 : decode cX6_adds 30 = .ok (.iload_n 2, 1) := by decide +kernel
theorem dX6_adds_31 : decode cX6_adds 31 = .ok (.iastore, 1) := by decide +kernel
theorem dX6_adds_32 : decode cX6_adds 32 = .ok (.aload_n 0, 1) := by decide +kernel
theorem dX6_adds_33 : decode cX6_adds 33 = .ok (.getfield 9, 3) := by decide +kernel
theorem dX6_adds_36 : decode cX6_adds 36 = .ok (.iload 5, 2) := by decide +kernel
theorem dX6_adds_38 : decode cX6_adds 38 = .ok (.iconst 2, 1) := by decide +kernel
theorem dX6_adds_39 : decode cX6_adds 39 = .ok (.iadd, 1) := by decide +kernel
theorem dX6_adds_40 : decode cX6_adds 40 = .ok (.iload_n 3, 1) := by decide +kernel
theorem dX6_adds_41 : decode cX6_adds 41 = .ok (.iastore, 1) := by decide +kernel
theorem dX6_adds_42 : decode cX6_adds 42 = .ok (.aload_n 0, 1) := by decide +kernel
theorem dX6_adds_43 : decode cX6_adds 43 = .ok (.getfield 9, 3) := by decide +kernel
theorem dX6_adds_46 : decode cX6_adds 46 = .ok (.iload 5, 2) := by decide +kernel
theorem dX6_adds_48 : decode cX6_adds 48 = .ok (.iconst 3, 1) := by decide +kernel
theorem dX6_adds_49 : decode cX6_adds 49 = .ok (.iadd, 1) := by decide +kernel
theorem dX6_adds_50 : decode cX6_adds 50 = .ok (.iload 4, 2) := by decide +kernel
theorem dX6_adds_52 : decode cX6_adds 52 = .ok (.iastore, 1) := by decide +kernel
theorem dX6_adds_53 : decode cX6_adds 53 = .ok (.aload_n 0, 1) := by decide +kernel
theorem dX6_adds_54 : decode cX6_adds 54 = .ok (.getfield 9, 3) := by decide +kernel
theorem dX6_adds_57 : decode cX6_adds 57 = .ok (.iconst 1, 1) := by decide +kernel
theorem dX6_adds_58 : decode cX6_adds 58 = .ok (.dup2, 1) := by decide +kernel
theorem dX6_adds_59 : decode cX6_adds 59 = .ok (.iaload, 1) := by decide +kernel
theorem dX6_adds_60 : decode cX6_adds 60 = .ok (.iconst 1, 1) := by decide +kernel
theorem dX6_adds_61 : decode cX6_adds 61 = .ok (.iadd, 1) := by decide +kernel
theorem dX6_adds_62 : decode cX6_adds 62 = .ok (.iastore, 1) := by decide +kernel
theorem dX6_adds_63 : decode cX6_adds 63 = .ok (.return_, 1) := by decide +kernel
set_option maxRecDepth 20000 in
theorem ggX6_part_X6_isKind : GoodIn wsX6_part wsX6_isKind := goodIn_r _ [5, 6, 7, 4, 8] (by decide +kernel) (by decide +kernel)
set_option maxRecDepth 20000 in
theorem gX6_part_X6_isKind : GoodIn wsX6_part (va_wsS RX6 61 yX6_isKind wsX6_isKind) := goodIn_app (goodIn_of _ (by decide +kernel)) ggX6_part_X6_isKind
set_option maxRecDepth 20000 in
theorem ggX6_part_X6_isPartly : GoodIn wsX6_part wsX6_isPartly := goodIn_r _ [11, 6, 7, 4, 8] (by decide +kernel) (by decide +kernel)
set_option maxRecDepth 20000 in
theorem gX6_part_X6_isPartly : GoodIn wsX6_part (va_wsS RX6 65 yX6_isPartly wsX6_isPartly) := goodIn_app (goodIn_of _ (by decide +kernel)) ggX6_part_X6_isPartly
set_option maxRecDepth 20000 in
theorem ggX6_part_X6_no : GoodIn wsX6_part wsX6_no := goodIn_r _ [15, 16, 17, 22, 23, 24, 25, 26, 27, 28, 29, 30, 31, 32, 33, 34, 35, 36, 37, 38, 39, 40, 41] (by decide +kernel) (by decide +kernel)
set_option maxRecDepth 20000 in
theorem gX6_part_X6_no : GoodIn wsX6_part (wsV RX6 68 RX6 yX6_no wsX6_no) := goodIn_app (goodIn_of _ (by decide +kernel)) ggX6_part_X6_no
set_option maxRecDepth 20000 in
theorem ggX6_part_X6_adds : GoodIn wsX6_part wsX6_adds := goodIn_r _ [21, 1, 22, 23, 24, 25, 26, 27, 28, 29, 30, 31, 32, 33, 34, 35, 36, 37, 38, 39, 40, 41] (by decide +kernel) (by decide +kernel)
set_option maxRecDepth 20000 in
theorem gX6_part_X6_adds : GoodIn wsX6_part (wsV RX6 72 RX6 yX6_adds wsX6_adds) := goodIn_app (goodIn_of _ (by decide +kernel)) ggX6_part_X6_adds
theorem dX6_part_0 : decode cX6_part 0 = .ok (.iload_n 1, 1) := by decide +kernel
theorem dX6_part_1 : decode cX6_part 1 = .ok (.invokestatic 61, 3) := by decide +kernel
theorem dX6_part_4 : decode cX6_part 4 = .ok (.ifCond .eq 13, 3) := by decide +kernel
theorem dX6_part_7 : decode cX6_part 7 = .ok (.iload_n 2, 1) := by decide +kernel
theorem dX6_part_8 : decode cX6_part 8 = .ok (.iload_n 3, 1) := by decide +kernel
theorem dX6_part_9 : decode cX6_part 9 = .ok (.iload 4, 2) := by decide +kernel
theorem dX6_part_11 : decode cX6_part 11 = .ok (.invokestatic 65, 3) := by decide +kernel
theorem dX6_part_14 : decode cX6_part 14 = .ok (.ifCond .ne 9, 3) := by decide +kernel
theorem dX6_part_17 : decode cX6_part 17 = .ok (.aload_n 0, 1) := by decide +kernel
theorem dX6_part_18 : decode cX6_part 18 = .ok (.iconst 0, 1) := by decide +kernel
theorem dX6_part_19 : decode cX6_part 19 = .ok (.invokevirtual 68, 3) := by decide +kernel
theorem dX6_part_22 : decode cX6_part 22 = .ok (.ireturn, 1) := by decide +kernel
theorem dX6_part_23 : decode cX6_part 23 = .ok (.aload_n 0, 1) := by decide +kernel
theorem dX6_part_24 : decode cX6_part 24 = .ok (.getfield 9, 3) := by decide +kernel
theorem dX6_part_27 : decode cX6_part 27 = .ok (.iconst 1, 1) := by decide +kernel
theorem dX6_part_28 : decode cX6_part 28 = .ok (.iaload, 1) := by decide +kernel
theorem dX6_part_29 : decode cX6_part 29 = .ok (.bipush 16, 2) := by decide +kernel
theorem dX6_part_31 : decode cX6_part 31 = .ok (.if_icmp .ne 9, 3) := by decide +kernel
theorem dX6_part_34 : decode cX6_part 34 = .ok (.aload_n 0, 1) := by decide +kernel
theorem dX6_part_35 : decode cX6_part 35 = .ok (.iconst 1, 1) := by decide +kernel
theorem dX6_part_36 : decode cX6_part 36 = .ok (.invokevirtual 68, 3) := by decide +kernel
theorem dX6_part_39 : decode cX6_part 39 = .ok (.ireturn, 1) := by decide +kernel
theorem dX6_part_40 : decode cX6_part 40 = .ok (.aload_n 0, 1) := by decide +kernel
theorem dX6_part_41 : decode cX6_part 41 = .ok (.iload_n 1, 1) := by decide +kernel
theorem dX6_part_42 : decode cX6_part 42 = .ok (.iload_n 2, 1) := by decide +kernel
theorem dX6_part_43 : decode cX6_part 43 = .ok (.iload_n 3, 1) := by decide +kernel
theorem dX6_part_44 : decode cX6_part 44 = .ok (.iload 4, 2) := by decide +kernel
theorem dX6_part_46 : decode cX6_part 46 = .ok (.invokevirtual 72, 3) := by decide +kernel
theorem dX6_part_49 : decode cX6_part 49 = .ok (.aload_n 0, 1) := by decide +kernel
theorem dX6_part_50 : decode cX6_part 50 = .ok (.getfield 9, 3) := by decide +kernel
theorem dX6_part_53 : decode cX6_part 53 = .ok (.iconst 1, 1) := by decide +kernel
theorem dX6_part_54 : decode cX6_part 54 = .ok (.iaload, 1) := by decide +kernel
theorem dX6_part_55 : decode cX6_part 55 = .ok (.iconst 1, 1) := by decide +kernel
theorem dX6_part_56 : decode cX6_part 56 = .ok (.isub, 1) := by decide +kernel
theorem dX6_part_57 : decode cX6_part 57 = .ok (.ireturn, 1) := by decide +kernel
theorem dX6_isBetween_0 : decode cX6_isBetween 0 = .ok (.iload_n 0, 1) := by decide +kernel
theorem dX6_isBetween_1 : decode cX6_isBetween 1 = .ok (.iload_n 1, 1) := by decide +kernel
theorem dX6_isBetween_2 : decode cX6_isBetween 2 = .ok (.if_icmp .lt 12, 3) := by decide +kernel
theorem dX6_isBetween_5 : decode cX6_isBetween 5 = .ok (.iload_n 0, 1) := by decide +kernel
theorem dX6_isBetween_6 : decode cX6_isBetween 6 = .ok (.iload_n 2, 1) := by decide +kernel
theorem dX6_isBetween_7 : decode cX6_isBetween 7 = .ok (.if_icmp .gt 7, 3) := by decide +kernel
theorem dX6_isBetween_10 : decode cX6_isBetween 10 = .ok (.iconst 1, 1) := by decide +kernel
theorem dX6_isBetween_11 : decode cX6_isBetween 11 = .ok (.goto 4, 3) := by decide +kernel
theorem dX6_isBetween_14 : decode cX6_isBetween 14 = .ok (.iconst 0, 1) := by decide +kernel
theorem dX6_isBetween_15 : decode cX6_isBetween 15 = .ok (.ireturn, 1) := by decide +kernel
set_option maxRecDepth 20000 in
theorem ggX6_isLength_X6_has : GoodIn wsX6_isLength wsX6_has := goodIn_r _ [5, 6, 10, 11, 12, 13, 14, 15, 16, 17, 18, 19, 20, 21, 22, 23, 24, 25, 26, 27, 28, 29] (by decide +kernel) (by decide +kernel)
set_option maxRecDepth 20000 in
theorem gX6_isLength_X6_has : GoodIn wsX6_isLength (wsV RX6 76 RX6 yX6_has wsX6_has) := goodIn_app (goodIn_of _ (by decide +kernel)) ggX6_isLength_X6_has
set_option maxRecDepth 20000 in
theorem ggX6_isLength_X6_isBetween : GoodIn wsX6_isLength wsX6_isBetween := goodIn_r _ [9] (by decide +kernel) (by decide +kernel)
set_option maxRecDepth 20000 in
theorem gX6_isLength_X6_isBetween : GoodIn wsX6_isLength (va_wsS RX6 80 yX6_isBetween wsX6_isBetween) := goodIn_app (goodIn_of _ (by decide +kernel)) ggX6_isLength_X6_isBetween
theorem dX6_isLength_0 : decode cX6_isLength 0 = .ok (.aload_n 0, 1) := by decide +kernel
theorem dX6_isLength_1 : decode cX6_isLength 1 = .ok (.iload_n 1, 1) := by decide +kernel
theorem dX6_isLength_2 : decode cX6_isLength 2 = .ok (.iconst 1, 1) := by decide +kernel
theorem dX6_isLength_3 : decode cX6_isLength 3 = .ok (.invokevirtual 76, 3) := by decide +kernel
theorem dX6_isLength_6 : decode cX6_isLength 6 = .ok (.istore_n 3, 1) := by decide +kernel
theorem dX6_isLength_7 : decode cX6_isLength 7 = .ok (.aload_n 0, 1) := by decide +kernel
theorem dX6_isLength_8 : decode cX6_isLength 8 = .ok (.iload_n 1, 1) := by decide +kernel
theorem dX6_isLength_9 : decode cX6_isLength 9 = .ok (.iconst 2, 1) := by decide +kernel
theorem dX6_isLength_10 : decode cX6_isLength 10 = .ok (.invokevirtual 76, 3) := by decide +kernel
theorem dX6_isLength_13 : decode cX6_isLength 13 = .ok (.istore 4, 2) := by decide +kernel
theorem dX6_isLength_15 : decode cX6_isLength 15 = .ok (.aload_n 0, 1) := by decide +kernel
theorem dX6_isLength_16 : decode cX6_isLength 16 = .ok (.iload_n 1, 1) := by decide +kernel
theorem dX6_isLength_17 : decode cX6_isLength 17 = .ok (.iconst 0, 1) := by decide +kernel
theorem dX6_isLength_18 : decode cX6_isLength 18 = .ok (.invokevirtual 76, 3) := by decide +kernel
theorem dX6_isLength_21 : decode cX6_isLength 21 = .ok (.tableswitch 127 0 4 #[35, 46, 54, 69, 93], 35) := by decide +kernel
theorem dX6_isLength_56 : decode cX6_isLength 56 = .ok (.iload_n 2, 1) := by decide +kernel
theorem dX6_isLength_57 : decode cX6_isLength 57 = .ok (.iload_n 3, 1) := by decide +kernel
theorem dX6_isLength_58 : decode cX6_isLength 58 = .ok (.if_icmp .ne 7, 3) := by decide +kernel
theorem dX6_isLength_61 : decode cX6_isLength 61 = .ok (.iconst 1, 1) := by decide +kernel
theorem dX6_isLength_62 : decode cX6_isLength 62 = .ok (.goto 4, 3) := by decide +kernel
theorem dX6_isLength_65 : decode cX6_isLength 65 = .ok (.iconst 0, 1) := by decide +kernel
theorem dX6_isLength_66 : decode cX6_isLength 66 = .ok (.ireturn, 1) := by decide +kernel
theorem dX6_isLength_67 : decode cX6_isLength 67 = .ok (.iload_n 2, 1) := by decide +kernel
theorem dX6_isLength_68 : decode cX6_isLength 68 = .ok (.iload_n 3, 1) := by decide +kernel
theorem dX6_isLength_69 : decode cX6_isLength 69 = .ok (.iload 4, 2) := by decide +kernel
theorem dX6_isLength_71 : decode cX6_isLength 71 = .ok (.invokestatic 80, 3) := by decide +kernel
theorem dX6_isLength_74 : decode cX6_isLength 74 = .ok (.ireturn, 1) := by decide +kernel
theorem dX6_isLength_75 : decode cX6_isLength 75 = .ok (.iload_n 2, 1) := by decide +kernel
theorem dX6_isLength_76 : decode cX6_isLength 76 = .ok (.ifCond .eq 8, 3) := by decide +kernel
theorem dX6_isLength_79 : decode cX6_isLength 79 = .ok (.iload_n 2, 1) := by decide +kernel
theorem dX6_isLength_80 : decode cX6_isLength 80 = .ok (.iload_n 3, 1) := by decide +kernel
theorem dX6_isLength_81 : decode cX6_isLength 81 = .ok (.if_icmp .ne 7, 3) := by decide +kernel
theorem dX6_isLength_84 : decode cX6_isLength 84 = .ok (.iconst 1, 1) := by decide +kernel
theorem dX6_isLength_85 : decode cX6_isLength 85 = .ok (.goto 4, 3) := by decide +kernel
theorem dX6_isLength_88 : decode cX6_isLength 88 = .ok (.iconst 0, 1) := by decide +kernel
theorem dX6_isLength_89 : decode cX6_isLength 89 = .ok (.ireturn, 1) := by decide +kernel
theorem dX6_isLength_90 : decode cX6_isLength 90 = .ok (.iload_n 2, 1) := by decide +kernel
theorem dX6_isLength_91 : decode cX6_isLength 91 = .ok (.iload_n 3, 1) := by decide +kernel
theorem dX6_isLength_92 : decode cX6_isLength 92 = .ok (.iload 4, 2) := by decide +kernel
theorem dX6_isLength_94 : decode cX6_isLength 94 = .ok (.invokestatic 80, 3) := by decide +kernel
theorem dX6_isLength_97 : decode cX6_isLength 97 = .ok (.ifCond .eq 15, 3) := by decide +kernel
theorem dX6_isLength_100 : decode cX6_isLength 100 = .ok (.iload_n 2, 1) := by decide +kernel
theorem dX6_isLength_101 : decode cX6_isLength 101 = .ok (.iload_n 3, 1) := by decide +kernel
theorem dX6_isLength_102 : decode cX6_isLength 102 = .ok (.isub, 1) := by decide +kernel
theorem dX6_isLength_103 : decode cX6_isLength 103 = .ok (.iconst 2, 1) := by decide +kernel
theorem dX6_isLength_104 : decode cX6_isLength 104 = .ok (.irem, 1) := by decide +kernel
theorem dX6_isLength_105 : decode cX6_isLength 105 = .ok (.ifCond .ne 7, 3) := by decide +kernel
theorem dX6_isLength_108 : decode cX6_isLength 108 = .ok (.iconst 1, 1) := by decide +kernel
theorem dX6_isLength_109 : decode cX6_isLength 109 = .ok (.goto 4, 3) := by decide +kernel
theorem dX6_isLength_112 : decode cX6_isLength 112 = .ok (.iconst 0, 1) := by decide +kernel
theorem dX6_isLength_113 : decode cX6_isLength 113 = .ok (.ireturn, 1) := by decide +kernel
theorem dX6_isLength_114 : decode cX6_isLength 114 = .ok (.iload_n 2, 1) := by decide +kernel
theorem dX6_isLength_115 : decode cX6_isLength 115 = .ok (.iload_n 3, 1) := by decide +kernel
theorem dX6_isLength_116 : decode cX6_isLength 116 = .ok (.iload 4, 2) := by decide +kernel
theorem dX6_isLength_118 : decode cX6_isLength 118 = .ok (.invokestatic 80, 3) := by decide +kernel
theorem dX6_isLength_121 : decode cX6_isLength 121 = .ok (.ifCond .ne 21, 3) := by decide +kernel
theorem dX6_isLength_124 : decode cX6_isLength 124 = .ok (.iload_n 2, 1) := by decide +kernel
theorem dX6_isLength_125 : decode cX6_isLength 125 = .ok (.iconst 2, 1) := by decide +kernel
theorem dX6_isLength_126 : decode cX6_isLength 126 = .ok (.irem, 1) := by decide +kernel
theorem dX6_isLength_127 : decode cX6_isLength 127 = .ok (.ifCond .ne 19, 3) := by decide +kernel
theorem dX6_isLength_130 : decode cX6_isLength 130 = .ok (.iload_n 2, 1) := by decide +kernel
theorem dX6_isLength_131 : decode cX6_isLength 131 = .ok (.iconst 2, 1) := by decide +kernel
theorem dX6_isLength_132 : decode cX6_isLength 132 = .ok (.idiv, 1) := by decide +kernel
theorem dX6_isLength_133 : decode cX6_isLength 133 = .ok (.iload_n 3, 1) := by decide +kernel
theorem dX6_isLength_134 : decode cX6_isLength 134 = .ok (.iload 4, 2) := by decide +kernel
theorem dX6_isLength_136 : decode cX6_isLength 136 = .ok (.invokestatic 80, 3) := by decide +kernel
theorem dX6_isLength_139 : decode cX6_isLength 139 = .ok (.ifCond .eq 7, 3) := by decide +kernel
theorem dX6_isLength_142 : decode cX6_isLength 142 = .ok (.iconst 1, 1) := by decide +kernel
theorem dX6_isLength_143 : decode cX6_isLength 143 = .ok (.goto 4, 3) := by decide +kernel
theorem dX6_isLength_146 : decode cX6_isLength 146 = .ok (.iconst 0, 1) := by decide +kernel
theorem dX6_isLength_147 : decode cX6_isLength 147 = .ok (.ireturn, 1) := by decide +kernel
theorem dX6_isLength_148 : decode cX6_isLength 148 = .ok (.iload_n 2, 1) := by decide +kernel
theorem dX6_isLength_149 : decode cX6_isLength 149 = .ok (.iconst 0, 1) := by decide +kernel
theorem dX6_isLength_150 : decode cX6_isLength 150 = .ok (.iload 4, 2) := by decide +kernel
theorem dX6_isLength_152 : decode cX6_isLength 152 = .ok (.invokestatic 80, 3) := by decide +kernel
theorem dX6_isLength_155 : decode cX6_isLength 155 = .ok (.ireturn, 1) := by decide +kernel
set_option maxRecDepth 20000 in
theorem ggX6_lengths_X6_isLength : GoodIn wsX6_lengths wsX6_isLength := goodIn_r _ [5, 6, 7, 8, 4, 9, 10, 11, 12, 13, 14, 15, 16, 17, 18, 19, 20, 21, 22, 23, 24, 25, 26, 27, 28, 29, 30, 31, 32, 33] (by decide +kernel) (by decide +kernel)
set_option maxRecDepth 20000 in
theorem gX6_lengths_X6_isLength : GoodIn wsX6_lengths (wsV RX6 83 RX6 yX6_isLength wsX6_isLength) := goodIn_app (goodIn_of _ (by decide +kernel)) ggX6_lengths_X6_isLength
theorem dX6_lengths_0 : decode cX6_lengths 0 = .ok (.iconst 0, 1) := by decide +kernel
theorem dX6_lengths_1 : decode cX6_lengths 1 = .ok (.istore_n 2, 1) := by decide +kernel
theorem dX6_lengths_2 : decode cX6_lengths 2 = .ok (.iconst 0, 1) := by decide +kernel
theorem dX6_lengths_3 : decode cX6_lengths 3 = .ok (.istore_n 3, 1) := by decide +kernel
theorem dX6_lengths_4 : decode cX6_lengths 4 = .ok (.iload_n 3, 1) := by decide +kernel
theorem dX6_lengths_5 : decode cX6_lengths 5 = .ok (.bipush 25, 2) := by decide +kernel
theorem dX6_lengths_7 : decode cX6_lengths 7 = .ok (.if_icmp .ge 28, 3) := by decide +kernel
theorem dX6_lengths_10 : decode cX6_lengths 10 = .ok (.iload_n 2, 1) := by decide +kernel
theorem dX6_lengths_11 : decode cX6_lengths 11 = .ok (.aload_n 0, 1) := by decide +kernel
theorem dX6_lengths_12 : decode cX6_lengths 12 = .ok (.iload_n 1, 1) := by decide +kernel
theorem dX6_lengths_13 : decode cX6_lengths 13 = .ok (.iload_n 3, 1) := by decide +kernel
theorem dX6_lengths_14 : decode cX6_lengths 14 = .ok (.invokevirtual 83, 3) := by decide +kernel
theorem dX6_lengths_17 : decode cX6_lengths 17 = .ok (.ifCond .eq 9, 3) := by decide +kernel
theorem dX6_lengths_20 : decode cX6_lengths 20 = .ok (.iconst 1, 1) := by decide +kernel
theorem dX6_lengths_21 : decode cX6_lengths 21 = .ok (.iload_n 3, 1) := by decide +kernel
theorem dX6_lengths_22 : decode cX6_lengths 22 = .ok (.ishl, 1) := by decide +kernel
theorem dX6_lengths_23 : decode cX6_lengths 23 = .ok (.goto 4, 3) := by decide +kernel
theorem dX6_lengths_26 : decode cX6_lengths 26 = .ok (.iconst 0, 1) := by decide +kernel
theorem dX6_lengths_27 : decode cX6_lengths 27 = .ok (.ior, 1) := by decide +kernel
theorem dX6_lengths_28 : decode cX6_lengths 28 = .ok (.istore_n 2, 1) := by decide +kernel
theorem dX6_lengths_29 : decode cX6_lengths 29 = .ok (.iinc 3 1, 3) := by decide +kernel
theorem dX6_lengths_32 : decode cX6_lengths 32 = .ok (.goto (-28), 3) := by decide +kernel
theorem dX6_lengths_35 : decode cX6_lengths 35 = .ok (.iload_n 2, 1) := by decide +kernel
theorem dX6_lengths_36 : decode cX6_lengths 36 = .ok (.ireturn, 1) := by decide +kernel
set_option maxRecDepth 20000 in
theorem ggX6_partOf_X6_isPart : GoodIn wsX6_partOf wsX6_isPart := goodIn_r _ [5, 6, 7, 8, 4, 9, 31, 32, 33, 34, 35, 36, 37, 38, 39, 40, 41, 42, 43, 44, 45, 46, 47, 48, 49, 50] (by decide +kernel) (by decide +kernel)
set_option maxRecDepth 20000 in
theorem gX6_partOf_X6_isPart : GoodIn wsX6_partOf (wsV RX6 87 RX6 yX6_isPart wsX6_isPart) := goodIn_app (goodIn_of _ (by decide +kernel)) ggX6_partOf_X6_isPart
set_option maxRecDepth 20000 in
theorem ggX6_partOf_X6_in : GoodIn wsX6_partOf wsX6_in := goodIn_r _ [9] (by decide +kernel) (by decide +kernel)
set_option maxRecDepth 20000 in
theorem gX6_partOf_X6_in : GoodIn wsX6_partOf (va_wsS RX6 57 yX6_in wsX6_in) := goodIn_app (goodIn_of _ (by decide +kernel)) ggX6_partOf_X6_in
set_option maxRecDepth 20000 in
theorem ggX6_partOf_X6_no : GoodIn wsX6_partOf wsX6_no := goodIn_r _ [13, 14, 15, 31, 32, 33, 34, 35, 36, 37, 38, 39, 40, 41, 42, 43, 44, 45, 46, 47, 48, 49, 50] (by decide +kernel) (by decide +kernel)
set_option maxRecDepth 20000 in
theorem gX6_partOf_X6_no : GoodIn wsX6_partOf (wsV RX6 68 RX6 yX6_no wsX6_no) := goodIn_app (goodIn_of _ (by decide +kernel)) ggX6_partOf_X6_no
set_option maxRecDepth 20000 in
theorem ggX6_partOf_X6_lengths : GoodIn wsX6_partOf wsX6_lengths := goodIn_r _ [19, 20, 21, 22, 4, 23, 24, 25, 26, 27, 6, 28, 29, 30, 31, 32, 33, 34, 35, 36, 37, 38, 39, 40, 41, 42, 43, 44, 45, 46, 47, 48, 49, 50] (by decide +kernel) (by decide +kernel)
set_option maxRecDepth 20000 in
theorem gX6_partOf_X6_lengths : GoodIn wsX6_partOf (wsV RX6 90 RX6 yX6_lengths wsX6_lengths) := goodIn_app (goodIn_of _ (by decide +kernel)) ggX6_partOf_X6_lengths
set_option maxRecDepth 20000 in
theorem ggX6_partOf_X6_has : GoodIn wsX6_partOf wsX6_has := goodIn_r _ [27, 6, 31, 32, 33, 34, 35, 36, 37, 38, 39, 40, 41, 42, 43, 44, 45, 46, 47, 48, 49, 50] (by decide +kernel) (by decide +kernel)
set_option maxRecDepth 20000 in
theorem gX6_partOf_X6_has : GoodIn wsX6_partOf (wsV RX6 76 RX6 yX6_has wsX6_has) := goodIn_app (goodIn_of _ (by decide +kernel)) ggX6_partOf_X6_has
theorem dX6_partOf_0 : decode cX6_partOf 0 = .ok (.aload_n 0, 1) := by decide +kernel
theorem dX6_partOf_1 : decode cX6_partOf 1 = .ok (.iload_n 1, 1) := by decide +kernel
theorem dX6_partOf_2 : decode cX6_partOf 2 = .ok (.invokevirtual 87, 3) := by decide +kernel
theorem dX6_partOf_5 : decode cX6_partOf 5 = .ok (.ifCond .eq 12, 3) := by decide +kernel
theorem dX6_partOf_8 : decode cX6_partOf 8 = .ok (.iload_n 2, 1) := by decide +kernel
theorem dX6_partOf_9 : decode cX6_partOf 9 = .ok (.iconst 0, 1) := by decide +kernel
theorem dX6_partOf_10 : decode cX6_partOf 10 = .ok (.iconst 4, 1) := by decide +kernel
theorem dX6_partOf_11 : decode cX6_partOf 11 = .ok (.invokestatic 57, 3) := by decide +kernel
theorem dX6_partOf_14 : decode cX6_partOf 14 = .ok (.ifCond .ne 9, 3) := by decide +kernel
theorem dX6_partOf_17 : decode cX6_partOf 17 = .ok (.aload_n 0, 1) := by decide +kernel
theorem dX6_partOf_18 : decode cX6_partOf 18 = .ok (.iconst 0, 1) := by decide +kernel
theorem dX6_partOf_19 : decode cX6_partOf 19 = .ok (.invokevirtual 68, 3) := by decide +kernel
theorem dX6_partOf_22 : decode cX6_partOf 22 = .ok (.ireturn, 1) := by decide +kernel
theorem dX6_partOf_23 : decode cX6_partOf 23 = .ok (.iload_n 2, 1) := by decide +kernel
theorem dX6_partOf_24 : decode cX6_partOf 24 = .ok (.iconst 4, 1) := by decide +kernel
theorem dX6_partOf_25 : decode cX6_partOf 25 = .ok (.if_icmp .ne 11, 3) := by decide +kernel
theorem dX6_partOf_28 : decode cX6_partOf 28 = .ok (.aload_n 0, 1) := by decide +kernel
theorem dX6_partOf_29 : decode cX6_partOf 29 = .ok (.iload_n 1, 1) := by decide +kernel
theorem dX6_partOf_30 : decode cX6_partOf 30 = .ok (.invokevirtual 90, 3) := by decide +kernel
theorem dX6_partOf_33 : decode cX6_partOf 33 = .ok (.goto 9, 3) := by decide +kernel
theorem dX6_partOf_36 : decode cX6_partOf 36 = .ok (.aload_n 0, 1) := by decide +kernel
theorem dX6_partOf_37 : decode cX6_partOf 37 = .ok (.iload_n 1, 1) := by decide +kernel
theorem dX6_partOf_38 : decode cX6_partOf 38 = .ok (.iload_n 2, 1) := by decide +kernel
theorem dX6_partOf_39 : decode cX6_partOf 39 = .ok (.invokevirtual 76, 3) := by decide +kernel
theorem dX6_partOf_42 : decode cX6_partOf 42 = .ok (.ireturn, 1) := by decide +kernel
set_option maxRecDepth 20000 in
theorem ggX6_set_X6_isPart : GoodIn wsX6_set wsX6_isPart := goodIn_r _ [5, 6, 7, 8, 4, 9, 27, 28, 29, 30, 31, 32, 33, 34, 35, 36, 37, 38, 39, 40, 41, 42, 43, 44, 45, 46] (by decide +kernel) (by decide +kernel)
set_option maxRecDepth 20000 in
theorem gX6_set_X6_isPart : GoodIn wsX6_set (wsV RX6 87 RX6 yX6_isPart wsX6_isPart) := goodIn_app (goodIn_of _ (by decide +kernel)) ggX6_set_X6_isPart
set_option maxRecDepth 20000 in
theorem ggX6_set_X6_in : GoodIn wsX6_set wsX6_in := goodIn_r _ [9] (by decide +kernel) (by decide +kernel)
set_option maxRecDepth 20000 in
theorem gX6_set_X6_in : GoodIn wsX6_set (va_wsS RX6 57 yX6_in wsX6_in) := goodIn_app (goodIn_of _ (by decide +kernel)) ggX6_set_X6_in
set_option maxRecDepth 20000 in
theorem ggX6_set_X6_no : GoodIn wsX6_set wsX6_no := goodIn_r _ [13, 14, 15, 27, 28, 29, 30, 31, 32, 33, 34, 35, 36, 37, 38, 39, 40, 41, 42, 43, 44, 45, 46] (by decide +kernel) (by decide +kernel)
set_option maxRecDepth 20000 in
theorem gX6_set_X6_no : GoodIn wsX6_set (wsV RX6 68 RX6 yX6_no wsX6_no) := goodIn_app (goodIn_of _ (by decide +kernel)) ggX6_set_X6_no
set_option maxRecDepth 20000 in
theorem ggX6_set_X6_has : GoodIn wsX6_set wsX6_has := goodIn_r _ [19, 6, 27, 28, 29, 30, 31, 32, 33, 34, 35, 36, 37, 38, 39, 40, 41, 42, 43, 44, 45, 46] (by decide +kernel) (by decide +kernel)
set_option maxRecDepth 20000 in
theorem gX6_set_X6_has : GoodIn wsX6_set (wsV RX6 76 RX6 yX6_has wsX6_has) := goodIn_app (goodIn_of _ (by decide +kernel)) ggX6_set_X6_has
set_option maxRecDepth 20000 in
theorem ggX6_set_X6_isPartly : GoodIn wsX6_set wsX6_isPartly := goodIn_r _ [22, 7, 8, 4, 9] (by decide +kernel) (by decide +kernel)
set_option maxRecDepth 20000 in
theorem gX6_set_X6_isPartly : GoodIn wsX6_set (va_wsS RX6 65 yX6_isPartly wsX6_isPartly) := goodIn_app (goodIn_of _ (by decide +kernel)) ggX6_set_X6_isPartly
set_option maxRecDepth 20000 in
theorem ggX6_set_X6_puts : GoodIn wsX6_set wsX6_puts := goodIn_r _ [26, 6, 27, 28, 29, 30, 31, 32, 33, 34, 35, 36, 37, 38, 39, 40, 41, 42, 43, 44, 45, 46] (by decide +kernel) (by decide +kernel)
set_option maxRecDepth 20000 in
theorem gX6_set_X6_puts : GoodIn wsX6_set (wsV RX6 93 RX6 yX6_puts wsX6_puts) := goodIn_app (goodIn_of _ (by decide +kernel)) ggX6_set_X6_puts
theorem dX6_set_0 : decode cX6_set 0 = .ok (.aload_n 0, 1) := by decide +kernel
theorem dX6_set_1 : decode cX6_set 1 = .ok (.iload_n 1, 1) := by decide +kernel
theorem dX6_set_2 : decode cX6_set 2 = .ok (.invokevirtual 87, 3) := by decide +kernel
theorem dX6_set_5 : decode cX6_set 5 = .ok (.ifCond .eq 12, 3) := by decide +kernel
theorem dX6_set_8 : decode cX6_set 8 = .ok (.iload_n 2, 1) := by decide +kernel
theorem dX6_set_9 : decode cX6_set 9 = .ok (.iconst 1, 1) := by decide +kernel
theorem dX6_set_10 : decode cX6_set 10 = .ok (.iconst 3, 1) := by decide +kernel
theorem dX6_set_11 : decode cX6_set 11 = .ok (.invokestatic 57, 3) := by decide +kernel
theorem dX6_set_14 : decode cX6_set 14 = .ok (.ifCond .ne 9, 3) := by decide +kernel
theorem dX6_set_17 : decode cX6_set 17 = .ok (.aload_n 0, 1) := by decide +kernel
theorem dX6_set_18 : decode cX6_set 18 = .ok (.iconst 0, 1) := by decide +kernel
theorem dX6_set_19 : decode cX6_set 19 = .ok (.invokevirtual 68, 3) := by decide +kernel
theorem dX6_set_22 : decode cX6_set 22 = .ok (.ireturn, 1) := by decide +kernel
theorem dX6_set_23 : decode cX6_set 23 = .ok (.iload_n 2, 1) := by decide +kernel
theorem dX6_set_24 : decode cX6_set 24 = .ok (.iconst 1, 1) := by decide +kernel
theorem dX6_set_25 : decode cX6_set 25 = .ok (.if_icmp .ne 7, 3) := by decide +kernel
theorem dX6_set_28 : decode cX6_set 28 = .ok (.iload_n 3, 1) := by decide +kernel
theorem dX6_set_29 : decode cX6_set 29 = .ok (.goto 9, 3) := by decide +kernel
theorem dX6_set_32 : decode cX6_set 32 = .ok (.aload_n 0, 1) := by decide +kernel
theorem dX6_set_33 : decode cX6_set 33 = .ok (.iload_n 1, 1) := by decide +kernel
theorem dX6_set_34 : decode cX6_set 34 = .ok (.iconst 1, 1) := by decide +kernel
theorem dX6_set_35 : decode cX6_set 35 = .ok (.invokevirtual 76, 3) := by decide +kernel
theorem dX6_set_38 : decode cX6_set 38 = .ok (.istore 4, 2) := by decide +kernel
theorem dX6_set_40 : decode cX6_set 40 = .ok (.iload_n 2, 1) := by decide +kernel
theorem dX6_set_41 : decode cX6_set 41 = .ok (.iconst 2, 1) := by decide +kernel
theorem dX6_set_42 : decode cX6_set 42 = .ok (.if_icmp .ne 7, 3) := by decide +kernel
theorem dX6_set_45 : decode cX6_set 45 = .ok (.iload_n 3, 1) := by decide +kernel
theorem dX6_set_46 : decode cX6_set 46 = .ok (.goto 9, 3) := by decide +kernel
theorem dX6_set_49 : decode cX6_set 49 = .ok (.aload_n 0, 1) := by decide +kernel
theorem dX6_set_50 : decode cX6_set 50 = .ok (.iload_n 1, 1) := by decide +kernel
theorem dX6_set_51 : decode cX6_set 51 = .ok (.iconst 2, 1) := by decide +kernel
theorem dX6_set_52 : decode cX6_set 52 = .ok (.invokevirtual 76, 3) := by decide +kernel
theorem dX6_set_55 : decode cX6_set 55 = .ok (.istore 5, 2) := by decide +kernel
theorem dX6_set_57 : decode cX6_set 57 = .ok (.iload_n 2, 1) := by decide +kernel
theorem dX6_set_58 : decode cX6_set 58 = .ok (.iconst 3, 1) := by decide +kernel
theorem dX6_set_59 : decode cX6_set 59 = .ok (.if_icmp .ne 7, 3) := by decide +kernel
theorem dX6_set_62 : decode cX6_set 62 = .ok (.iload_n 3, 1) := by decide +kernel
theorem dX6_set_63 : decode cX6_set 63 = .ok (.goto 9, 3) := by decide +kernel
theorem dX6_set_66 : decode cX6_set 66 = .ok (.aload_n 0, 1) := by decide +kernel
theorem dX6_set_67 : decode cX6_set 67 = .ok (.iload_n 1, 1) := by decide +kernel
theorem dX6_set_68 : decode cX6_set 68 = .ok (.iconst 3, 1) := by decide +kernel
theorem dX6_set_69 : decode cX6_set 69 = .ok (.invokevirtual 76, 3) := by decide +kernel
theorem dX6_set_72 : decode cX6_set 72 = .ok (.istore 6, 2) := by decide +kernel
theorem dX6_set_74 : decode cX6_set 74 = .ok (.iload 4, 2) := by decide +kernel
theorem dX6_set_76 : decode cX6_set 76 = .ok (.iload 5, 2) := by decide +kernel
theorem dX6_set_78 : decode cX6_set 78 = .ok (.iload 6, 2) := by decide +kernel
theorem dX6_set_80 : decode cX6_set 80 = .ok (.invokestatic 65, 3) := by decide +kernel
theorem dX6_set_83 : decode cX6_set 83 = .ok (.ifCond .eq 18, 3) := by decide +kernel
theorem dX6_set_86 : decode cX6_set 86 = .ok (.aload_n 0, 1) := by decide +kernel
theorem dX6_set_87 : decode cX6_set 87 = .ok (.iconst 4, 1) := by decide +kernel
theorem dX6_set_88 : decode cX6_set 88 = .ok (.iconst 4, 1) := by decide +kernel
theorem dX6_set_89 : decode cX6_set 89 = .ok (.iload_n 1, 1) := by decide +kernel
theorem dX6_set_90 : decode cX6_set 90 = .ok (.imul, 1) := by decide +kernel
theorem dX6_set_91 : decode cX6_set 91 = .ok (.iadd, 1) := by decide +kernel
theorem dX6_set_92 : decode cX6_set 92 = .ok (.iload_n 2, 1) := by decide +kernel
theorem dX6_set_93 : decode cX6_set 93 = .ok (.iadd, 1) := by decide +kernel
theorem dX6_set_94 : decode cX6_set 94 = .ok (.iload_n 3, 1) := by decide +kernel
theorem dX6_set_95 : decode cX6_set 95 = .ok (.invokevirtual 93, 3) := by decide +kernel
theorem dX6_set_98 : decode cX6_set 98 = .ok (.goto 8, 3) := by decide +kernel
theorem dX6_set_101 : decode cX6_set 101 = .ok (.aload_n 0, 1) := by decide +kernel
theorem dX6_set_102 : decode cX6_set 102 = .ok (.iconst 0, 1) := by decide +kernel
theorem dX6_set_103 : decode cX6_set 103 = .ok (.invokevirtual 68, 3) := by decide +kernel
theorem dX6_set_106 : decode cX6_set 106 = .ok (.ireturn, 1) := by decide +kernel
set_option maxRecDepth 20000 in
theorem ggX6_turn_X6_isPart : GoodIn wsX6_turn wsX6_isPart := goodIn_r _ [5, 6, 7, 8, 4, 9, 23, 24, 25, 26, 27, 28, 29, 30, 31, 32, 33, 34, 35, 36, 37, 38, 39, 40, 41, 42] (by decide +kernel) (by decide +kernel)
set_option maxRecDepth 20000 in
theorem gX6_turn_X6_isPart : GoodIn wsX6_turn (wsV RX6 87 RX6 yX6_isPart wsX6_isPart) := goodIn_app (goodIn_of _ (by decide +kernel)) ggX6_turn_X6_isPart
set_option maxRecDepth 20000 in
theorem ggX6_turn_X6_isKind : GoodIn wsX6_turn wsX6_isKind := goodIn_r _ [12, 7, 8, 4, 9] (by decide +kernel) (by decide +kernel)
set_option maxRecDepth 20000 in
theorem gX6_turn_X6_isKind : GoodIn wsX6_turn (va_wsS RX6 61 yX6_isKind wsX6_isKind) := goodIn_app (goodIn_of _ (by decide +kernel)) ggX6_turn_X6_isKind
set_option maxRecDepth 20000 in
theorem ggX6_turn_X6_puts : GoodIn wsX6_turn wsX6_puts := goodIn_r _ [16, 6, 23, 24, 25, 26, 27, 28, 29, 30, 31, 32, 33, 34, 35, 36, 37, 38, 39, 40, 41, 42] (by decide +kernel) (by decide +kernel)
set_option maxRecDepth 20000 in
theorem gX6_turn_X6_puts : GoodIn wsX6_turn (wsV RX6 93 RX6 yX6_puts wsX6_puts) := goodIn_app (goodIn_of _ (by decide +kernel)) ggX6_turn_X6_puts
set_option maxRecDepth 20000 in
theorem ggX6_turn_X6_no : GoodIn wsX6_turn wsX6_no := goodIn_r _ [20, 21, 22, 23, 24, 25, 26, 27, 28, 29, 30, 31, 32, 33, 34, 35, 36, 37, 38, 39, 40, 41, 42] (by decide +kernel) (by decide +kernel)
set_option maxRecDepth 20000 in
theorem gX6_turn_X6_no : GoodIn wsX6_turn (wsV RX6 68 RX6 yX6_no wsX6_no) := goodIn_app (goodIn_of _ (by decide +kernel)) ggX6_turn_X6_no
theorem dX6_turn_0 : decode cX6_turn 0 = .ok (.aload_n 0, 1) := by decide +kernel
theorem dX6_turn_1 : decode cX6_turn 1 = .ok (.iload_n 1, 1) := by decide +kernel
theorem dX6_turn_2 : decode cX6_turn 2 = .ok (.invokevirtual 87, 3) := by decide +kernel
theorem dX6_turn_5 : decode cX6_turn 5 = .ok (.ifCond .eq 25, 3) := by decide +kernel
theorem dX6_turn_8 : decode cX6_turn 8 = .ok (.iload_n 2, 1) := by decide +kernel
theorem dX6_turn_9 : decode cX6_turn 9 = .ok (.invokestatic 61, 3) := by decide +kernel
theorem dX6_turn_12 : decode cX6_turn 12 = .ok (.ifCond .eq 18, 3) := by decide +kernel
theorem dX6_turn_15 : decode cX6_turn 15 = .ok (.aload_n 0, 1) := by decide +kernel
theorem dX6_turn_16 : decode cX6_turn 16 = .ok (.iconst 4, 1) := by decide +kernel
theorem dX6_turn_17 : decode cX6_turn 17 = .ok (.iconst 4, 1) := by decide +kernel
theorem dX6_turn_18 : decode cX6_turn 18 = .ok (.iload_n 1, 1) := by decide +kernel
theorem dX6_turn_19 : decode cX6_turn 19 = .ok (.imul, 1) := by decide +kernel
theorem dX6_turn_20 : decode cX6_turn 20 = .ok (.iadd, 1) := by decide +kernel
theorem dX6_turn_21 : decode cX6_turn 21 = .ok (.iconst 0, 1) := by decide +kernel
theorem dX6_turn_22 : decode cX6_turn 22 = .ok (.iadd, 1) := by decide +kernel
theorem dX6_turn_23 : decode cX6_turn 23 = .ok (.iload_n 2, 1) := by decide +kernel
theorem dX6_turn_24 : decode cX6_turn 24 = .ok (.invokevirtual 93, 3) := by decide +kernel
theorem dX6_turn_27 : decode cX6_turn 27 = .ok (.goto 8, 3) := by decide +kernel
theorem dX6_turn_30 : decode cX6_turn 30 = .ok (.aload_n 0, 1) := by decide +kernel
theorem dX6_turn_31 : decode cX6_turn 31 = .ok (.iconst 0, 1) := by decide +kernel
theorem dX6_turn_32 : decode cX6_turn 32 = .ok (.invokevirtual 68, 3) := by decide +kernel
theorem dX6_turn_35 : decode cX6_turn 35 = .ok (.ireturn, 1) := by decide +kernel
theorem dX6_isUnder_0 : decode cX6_isUnder 0 = .ok (.iload_n 1, 1) := by decide +kernel
theorem dX6_isUnder_1 : decode cX6_isUnder 1 = .ok (.tableswitch 66 0 2 #[27, 29, 50], 27) := by decide +kernel
theorem dX6_isUnder_28 : decode cX6_isUnder 28 = .ok (.iconst 1, 1) := by decide +kernel
theorem dX6_isUnder_29 : decode cX6_isUnder 29 = .ok (.ireturn, 1) := by decide +kernel
theorem dX6_isUnder_30 : decode cX6_isUnder 30 = .ok (.iload_n 0, 1) := by decide +kernel
theorem dX6_isUnder_31 : decode cX6_isUnder 31 = .ok (.iconst 1, 1) := by decide +kernel
theorem dX6_isUnder_32 : decode cX6_isUnder 32 = .ok (.if_icmp .eq 13, 3) := by decide +kernel
theorem dX6_isUnder_35 : decode cX6_isUnder 35 = .ok (.iload_n 0, 1) := by decide +kernel
theorem dX6_isUnder_36 : decode cX6_isUnder 36 = .ok (.iconst 3, 1) := by decide +kernel
theorem dX6_isUnder_37 : decode cX6_isUnder 37 = .ok (.if_icmp .eq 8, 3) := by decide +kernel
theorem dX6_isUnder_40 : decode cX6_isUnder 40 = .ok (.iload_n 0, 1) := by decide +kernel
theorem dX6_isUnder_41 : decode cX6_isUnder 41 = .ok (.iconst 4, 1) := by decide +kernel
theorem dX6_isUnder_42 : decode cX6_isUnder 42 = .ok (.if_icmp .ne 7, 3) := by decide +kernel
theorem dX6_isUnder_45 : decode cX6_isUnder 45 = .ok (.iconst 1, 1) := by decide +kernel
theorem dX6_isUnder_46 : decode cX6_isUnder 46 = .ok (.goto 4, 3) := by decide +kernel
theorem dX6_isUnder_49 : decode cX6_isUnder 49 = .ok (.iconst 0, 1) := by decide +kernel
theorem dX6_isUnder_50 : decode cX6_isUnder 50 = .ok (.ireturn, 1) := by decide +kernel
theorem dX6_isUnder_51 : decode cX6_isUnder 51 = .ok (.iload_n 0, 1) := by decide +kernel
theorem dX6_isUnder_52 : decode cX6_isUnder 52 = .ok (.iconst 2, 1) := by decide +kernel
theorem dX6_isUnder_53 : decode cX6_isUnder 53 = .ok (.if_icmp .eq 8, 3) := by decide +kernel
theorem dX6_isUnder_56 : decode cX6_isUnder 56 = .ok (.iload_n 0, 1) := by decide +kernel
theorem dX6_isUnder_57 : decode cX6_isUnder 57 = .ok (.iconst 5, 1) := by decide +kernel
theorem dX6_isUnder_58 : decode cX6_isUnder 58 = .ok (.if_icmp .ne 7, 3) := by decide +kernel
theorem dX6_isUnder_61 : decode cX6_isUnder 61 = .ok (.iconst 1, 1) := by decide +kernel
theorem dX6_isUnder_62 : decode cX6_isUnder 62 = .ok (.goto 4, 3) := by decide +kernel
theorem dX6_isUnder_65 : decode cX6_isUnder 65 = .ok (.iconst 0, 1) := by decide +kernel
theorem dX6_isUnder_66 : decode cX6_isUnder 66 = .ok (.ireturn, 1) := by decide +kernel
theorem dX6_isUnder_67 : decode cX6_isUnder 67 = .ok (.iload_n 0, 1) := by decide +kernel
theorem dX6_isUnder_68 : decode cX6_isUnder 68 = .ok (.iload_n 1, 1) := by decide +kernel
theorem dX6_isUnder_69 : decode cX6_isUnder 69 = .ok (.if_icmp .ne 7, 3) := by decide +kernel
theorem dX6_isUnder_72 : decode cX6_isUnder 72 = .ok (.iconst 1, 1) := by decide +kernel
theorem dX6_isUnder_73 : decode cX6_isUnder 73 = .ok (.goto 4, 3) := by decide +kernel
theorem dX6_isUnder_76 : decode cX6_isUnder 76 = .ok (.iconst 0, 1) := by decide +kernel
theorem dX6_isUnder_77 : decode cX6_isUnder 77 = .ok (.ireturn, 1) := by decide +kernel
set_option maxRecDepth 20000 in
theorem ggX6_as_X6_isPart : GoodIn wsX6_as wsX6_isPart := goodIn_r _ [5, 6, 7, 8, 4, 9, 26, 27, 28, 29, 30, 31, 32, 33, 34, 35, 36, 37, 38, 39, 40, 41, 42, 43, 44, 45] (by decide +kernel) (by decide +kernel)
set_option maxRecDepth 20000 in
theorem gX6_as_X6_isPart : GoodIn wsX6_as (wsV RX6 87 RX6 yX6_isPart wsX6_isPart) := goodIn_app (goodIn_of _ (by decide +kernel)) ggX6_as_X6_isPart
set_option maxRecDepth 20000 in
theorem ggX6_as_X6_isKind : GoodIn wsX6_as wsX6_isKind := goodIn_r _ [12, 7, 8, 4, 9] (by decide +kernel) (by decide +kernel)
set_option maxRecDepth 20000 in
theorem gX6_as_X6_isKind : GoodIn wsX6_as (va_wsS RX6 61 yX6_isKind wsX6_isKind) := goodIn_app (goodIn_of _ (by decide +kernel)) ggX6_as_X6_isKind
set_option maxRecDepth 20000 in
theorem ggX6_as_X6_no : GoodIn wsX6_as wsX6_no := goodIn_r _ [16, 17, 18, 26, 27, 28, 29, 30, 31, 32, 33, 34, 35, 36, 37, 38, 39, 40, 41, 42, 43, 44, 45] (by decide +kernel) (by decide +kernel)
set_option maxRecDepth 20000 in
theorem gX6_as_X6_no : GoodIn wsX6_as (wsV RX6 68 RX6 yX6_no wsX6_no) := goodIn_app (goodIn_of _ (by decide +kernel)) ggX6_as_X6_no
set_option maxRecDepth 20000 in
theorem ggX6_as_X6_has : GoodIn wsX6_as wsX6_has := goodIn_r _ [22, 6, 26, 27, 28, 29, 30, 31, 32, 33, 34, 35, 36, 37, 38, 39, 40, 41, 42, 43, 44, 45] (by decide +kernel) (by decide +kernel)
set_option maxRecDepth 20000 in
theorem gX6_as_X6_has : GoodIn wsX6_as (wsV RX6 76 RX6 yX6_has wsX6_has) := goodIn_app (goodIn_of _ (by decide +kernel)) ggX6_as_X6_has
set_option maxRecDepth 20000 in
theorem ggX6_as_X6_isUnder : GoodIn wsX6_as wsX6_isUnder := goodIn_r _ [25] (by decide +kernel) (by decide +kernel)
set_option maxRecDepth 20000 in
theorem gX6_as_X6_isUnder : GoodIn wsX6_as (va_wsS RX6 96 yX6_isUnder wsX6_isUnder) := goodIn_app (goodIn_of _ (by decide +kernel)) ggX6_as_X6_isUnder
theorem dX6_as_0 : decode cX6_as 0 = .ok (.aload_n 0, 1) := by decide +kernel
theorem dX6_as_1 : decode cX6_as 1 = .ok (.iload_n 1, 1) := by decide +kernel
theorem dX6_as_2 : decode cX6_as 2 = .ok (.invokevirtual 87, 3) := by decide +kernel
theorem dX6_as_5 : decode cX6_as 5 = .ok (.ifCond .eq 10, 3) := by decide +kernel
theorem dX6_as_8 : decode cX6_as 8 = .ok (.iload_n 2, 1) := by decide +kernel
theorem dX6_as_9 : decode cX6_as 9 = .ok (.invokestatic 61, 3) := by decide +kernel
theorem dX6_as_12 : decode cX6_as 12 = .ok (.ifCond .ne 9, 3) := by decide +kernel
theorem dX6_as_15 : decode cX6_as 15 = .ok (.aload_n 0, 1) := by decide +kernel
theorem dX6_as_16 : decode cX6_as 16 = .ok (.iconst 0, 1) := by decide +kernel
theorem dX6_as_17 : decode cX6_as 17 = .ok (.invokevirtual 68, 3) := by decide +kernel
theorem dX6_as_20 : decode cX6_as 20 = .ok (.ireturn, 1) := by decide +kernel
theorem dX6_as_21 : decode cX6_as 21 = .ok (.aload_n 0, 1) := by decide +kernel
theorem dX6_as_22 : decode cX6_as 22 = .ok (.iload_n 1, 1) := by decide +kernel
theorem dX6_as_23 : decode cX6_as 23 = .ok (.iconst 0, 1) := by decide +kernel
theorem dX6_as_24 : decode cX6_as 24 = .ok (.invokevirtual 76, 3) := by decide +kernel
theorem dX6_as_27 : decode cX6_as 27 = .ok (.iload_n 2, 1) := by decide +kernel
theorem dX6_as_28 : decode cX6_as 28 = .ok (.invokestatic 96, 3) := by decide +kernel
theorem dX6_as_31 : decode cX6_as 31 = .ok (.ifCond .eq 12, 3) := by decide +kernel
theorem dX6_as_34 : decode cX6_as 34 = .ok (.aload_n 0, 1) := by decide +kernel
theorem dX6_as_35 : decode cX6_as 35 = .ok (.iload_n 1, 1) := by decide +kernel
theorem dX6_as_36 : decode cX6_as 36 = .ok (.iconst 3, 1) := by decide +kernel
theorem dX6_as_37 : decode cX6_as 37 = .ok (.invokevirtual 76, 3) := by decide +kernel
theorem dX6_as_40 : decode cX6_as 40 = .ok (.goto 8, 3) := by decide +kernel
theorem dX6_as_43 : decode cX6_as 43 = .ok (.aload_n 0, 1) := by decide +kernel
theorem dX6_as_44 : decode cX6_as 44 = .ok (.iconst 2, 1) := by decide +kernel
theorem dX6_as_45 : decode cX6_as 45 = .ok (.invokevirtual 68, 3) := by decide +kernel
theorem dX6_as_48 : decode cX6_as 48 = .ok (.ireturn, 1) := by decide +kernel
set_option maxRecDepth 20000 in
theorem ggX6_valued_X6_has : GoodIn wsX6_valued wsX6_has := goodIn_r _ [5, 6, 7, 8, 9, 10, 11, 12, 13, 14, 15, 16, 17, 18, 19, 20, 21, 22, 23, 24, 25, 26] (by decide +kernel) (by decide +kernel)
set_option maxRecDepth 20000 in
theorem gX6_valued_X6_has : GoodIn wsX6_valued (wsV RX6 76 RX6 yX6_has wsX6_has) := goodIn_app (goodIn_of _ (by decide +kernel)) ggX6_valued_X6_has
theorem dX6_valued_0 : decode cX6_valued 0 = .ok (.aload_n 0, 1) := by decide +kernel
theorem dX6_valued_1 : decode cX6_valued 1 = .ok (.iload_n 1, 1) := by decide +kernel
theorem dX6_valued_2 : decode cX6_valued 2 = .ok (.iconst 3, 1) := by decide +kernel
theorem dX6_valued_3 : decode cX6_valued 3 = .ok (.invokevirtual 76, 3) := by decide +kernel
theorem dX6_valued_6 : decode cX6_valued 6 = .ok (.istore_n 3, 1) := by decide +kernel
theorem dX6_valued_7 : decode cX6_valued 7 = .ok (.aload_n 0, 1) := by decide +kernel
theorem dX6_valued_8 : decode cX6_valued 8 = .ok (.iload_n 1, 1) := by decide +kernel
theorem dX6_valued_9 : decode cX6_valued 9 = .ok (.iconst 0, 1) := by decide +kernel
theorem dX6_valued_10 : decode cX6_valued 10 = .ok (.invokevirtual 76, 3) := by decide +kernel
theorem dX6_valued_13 : decode cX6_valued 13 = .ok (.tableswitch 79 0 4 #[35, 37, 41, 51, 57], 35) := by decide +kernel
theorem dX6_valued_48 : decode cX6_valued 48 = .ok (.iload_n 3, 1) := by decide +kernel
theorem dX6_valued_49 : decode cX6_valued 49 = .ok (.ireturn, 1) := by decide +kernel
theorem dX6_valued_50 : decode cX6_valued 50 = .ok (.iload_n 3, 1) := by decide +kernel
theorem dX6_valued_51 : decode cX6_valued 51 = .ok (.iload_n 2, 1) := by decide +kernel
theorem dX6_valued_52 : decode cX6_valued 52 = .ok (.imul, 1) := by decide +kernel
theorem dX6_valued_53 : decode cX6_valued 53 = .ok (.ireturn, 1) := by decide +kernel
theorem dX6_valued_54 : decode cX6_valued 54 = .ok (.iload_n 2, 1) := by decide +kernel
theorem dX6_valued_55 : decode cX6_valued 55 = .ok (.ifCond .le 7, 3) := by decide +kernel
theorem dX6_valued_58 : decode cX6_valued 58 = .ok (.iload_n 3, 1) := by decide +kernel
theorem dX6_valued_59 : decode cX6_valued 59 = .ok (.goto 4, 3) := by decide +kernel
theorem dX6_valued_62 : decode cX6_valued 62 = .ok (.iconst 0, 1) := by decide +kernel
theorem dX6_valued_63 : decode cX6_valued 63 = .ok (.ireturn, 1) := by decide +kernel
theorem dX6_valued_64 : decode cX6_valued 64 = .ok (.iload_n 3, 1) := by decide +kernel
theorem dX6_valued_65 : decode cX6_valued 65 = .ok (.iload_n 2, 1) := by decide +kernel
theorem dX6_valued_66 : decode cX6_valued 66 = .ok (.imul, 1) := by decide +kernel
theorem dX6_valued_67 : decode cX6_valued 67 = .ok (.iconst 5, 1) := by decide +kernel
theorem dX6_valued_68 : decode cX6_valued 68 = .ok (.iadd, 1) := by decide +kernel
theorem dX6_valued_69 : decode cX6_valued 69 = .ok (.ireturn, 1) := by decide +kernel
theorem dX6_valued_70 : decode cX6_valued 70 = .ok (.iload_n 2, 1) := by decide +kernel
theorem dX6_valued_71 : decode cX6_valued 71 = .ok (.aload_n 0, 1) := by decide +kernel
theorem dX6_valued_72 : decode cX6_valued 72 = .ok (.iload_n 1, 1) := by decide +kernel
theorem dX6_valued_73 : decode cX6_valued 73 = .ok (.iconst 2, 1) := by decide +kernel
theorem dX6_valued_74 : decode cX6_valued 74 = .ok (.invokevirtual 76, 3) := by decide +kernel
theorem dX6_valued_77 : decode cX6_valued 77 = .ok (.if_icmp .le 11, 3) := by decide +kernel
theorem dX6_valued_80 : decode cX6_valued 80 = .ok (.iload_n 3, 1) := by decide +kernel
theorem dX6_valued_81 : decode cX6_valued 81 = .ok (.iload_n 2, 1) := by decide +kernel
theorem dX6_valued_82 : decode cX6_valued 82 = .ok (.iconst 2, 1) := by decide +kernel
theorem dX6_valued_83 : decode cX6_valued 83 = .ok (.idiv, 1) := by decide +kernel
theorem dX6_valued_84 : decode cX6_valued 84 = .ok (.imul, 1) := by decide +kernel
theorem dX6_valued_85 : decode cX6_valued 85 = .ok (.goto 6, 3) := by decide +kernel
theorem dX6_valued_88 : decode cX6_valued 88 = .ok (.iload_n 3, 1) := by decide +kernel
theorem dX6_valued_89 : decode cX6_valued 89 = .ok (.iload_n 2, 1) := by decide +kernel
theorem dX6_valued_90 : decode cX6_valued 90 = .ok (.imul, 1) := by decide +kernel
theorem dX6_valued_91 : decode cX6_valued 91 = .ok (.ireturn, 1) := by decide +kernel
theorem dX6_valued_92 : decode cX6_valued 92 = .ok (.iload_n 2, 1) := by decide +kernel
theorem dX6_valued_93 : decode cX6_valued 93 = .ok (.ineg, 1) := by decide +kernel
theorem dX6_valued_94 : decode cX6_valued 94 = .ok (.ireturn, 1) := by decide +kernel
set_option maxRecDepth 20000 in
theorem ggX6_value_X6_isPart : GoodIn wsX6_value wsX6_isPart := goodIn_r _ [5, 6, 7, 8, 4, 9, 31, 32, 33, 34, 35, 36, 37, 38, 39, 40, 41, 42, 43, 44, 45, 46, 47, 48, 49, 50] (by decide +kernel) (by decide +kernel)
set_option maxRecDepth 20000 in
theorem gX6_value_X6_isPart : GoodIn wsX6_value (wsV RX6 87 RX6 yX6_isPart wsX6_isPart) := goodIn_app (goodIn_of _ (by decide +kernel)) ggX6_value_X6_isPart
set_option maxRecDepth 20000 in
theorem ggX6_value_X6_in : GoodIn wsX6_value wsX6_in := goodIn_r _ [9] (by decide +kernel) (by decide +kernel)
set_option maxRecDepth 20000 in
theorem gX6_value_X6_in : GoodIn wsX6_value (va_wsS RX6 57 yX6_in wsX6_in) := goodIn_app (goodIn_of _ (by decide +kernel)) ggX6_value_X6_in
set_option maxRecDepth 20000 in
theorem ggX6_value_X6_no : GoodIn wsX6_value wsX6_no := goodIn_r _ [13, 14, 15, 31, 32, 33, 34, 35, 36, 37, 38, 39, 40, 41, 42, 43, 44, 45, 46, 47, 48, 49, 50] (by decide +kernel) (by decide +kernel)
set_option maxRecDepth 20000 in
theorem gX6_value_X6_no : GoodIn wsX6_value (wsV RX6 68 RX6 yX6_no wsX6_no) := goodIn_app (goodIn_of _ (by decide +kernel)) ggX6_value_X6_no
set_option maxRecDepth 20000 in
theorem ggX6_value_X6_isLength : GoodIn wsX6_value wsX6_isLength := goodIn_r _ [19, 20, 21, 22, 4, 23, 6, 24, 25, 26, 31, 32, 33, 34, 35, 36, 37, 38, 39, 40, 41, 42, 43, 44, 45, 46, 47, 48, 49, 50] (by decide +kernel) (by decide +kernel)
set_option maxRecDepth 20000 in
theorem gX6_value_X6_isLength : GoodIn wsX6_value (wsV RX6 83 RX6 yX6_isLength wsX6_isLength) := goodIn_app (goodIn_of _ (by decide +kernel)) ggX6_value_X6_isLength
set_option maxRecDepth 20000 in
theorem ggX6_value_X6_valued : GoodIn wsX6_value wsX6_valued := goodIn_r _ [30, 20, 21, 22, 4, 23, 6, 31, 32, 33, 34, 35, 36, 37, 38, 39, 40, 41, 42, 43, 44, 45, 46, 47, 48, 49, 50] (by decide +kernel) (by decide +kernel)
set_option maxRecDepth 20000 in
theorem gX6_value_X6_valued : GoodIn wsX6_value (wsV RX6 99 RX6 yX6_valued wsX6_valued) := goodIn_app (goodIn_of _ (by decide +kernel)) ggX6_value_X6_valued
theorem dX6_value_0 : decode cX6_value 0 = .ok (.aload_n 0, 1) := by decide +kernel
theorem dX6_value_1 : decode cX6_value 1 = .ok (.iload_n 1, 1) := by decide +kernel
theorem dX6_value_2 : decode cX6_value 2 = .ok (.invokevirtual 87, 3) := by decide +kernel
theorem dX6_value_5 : decode cX6_value 5 = .ok (.ifCond .eq 13, 3) := by decide +kernel
theorem dX6_value_8 : decode cX6_value 8 = .ok (.iload_n 2, 1) := by decide +kernel
theorem dX6_value_9 : decode cX6_value 9 = .ok (.iconst 0, 1) := by decide +kernel
theorem dX6_value_10 : decode cX6_value 10 = .ok (.bipush 24, 2) := by decide +kernel
theorem dX6_value_12 : decode cX6_value 12 = .ok (.invokestatic 57, 3) := by decide +kernel
theorem dX6_value_15 : decode cX6_value 15 = .ok (.ifCond .ne 9, 3) := by decide +kernel
theorem dX6_value_18 : decode cX6_value 18 = .ok (.aload_n 0, 1) := by decide +kernel
theorem dX6_value_19 : decode cX6_value 19 = .ok (.iconst 0, 1) := by decide +kernel
theorem dX6_value_20 : decode cX6_value 20 = .ok (.invokevirtual 68, 3) := by decide +kernel
theorem dX6_value_23 : decode cX6_value 23 = .ok (.ireturn, 1) := by decide +kernel
theorem dX6_value_24 : decode cX6_value 24 = .ok (.aload_n 0, 1) := by decide +kernel
theorem dX6_value_25 : decode cX6_value 25 = .ok (.iload_n 1, 1) := by decide +kernel
theorem dX6_value_26 : decode cX6_value 26 = .ok (.iload_n 2, 1) := by decide +kernel
theorem dX6_value_27 : decode cX6_value 27 = .ok (.invokevirtual 83, 3) := by decide +kernel
theorem dX6_value_30 : decode cX6_value 30 = .ok (.ifCond .eq 12, 3) := by decide +kernel
theorem dX6_value_33 : decode cX6_value 33 = .ok (.aload_n 0, 1) := by decide +kernel
theorem dX6_value_34 : decode cX6_value 34 = .ok (.iload_n 1, 1) := by decide +kernel
theorem dX6_value_35 : decode cX6_value 35 = .ok (.iload_n 2, 1) := by decide +kernel
theorem dX6_value_36 : decode cX6_value 36 = .ok (.invokevirtual 99, 3) := by decide +kernel
theorem dX6_value_39 : decode cX6_value 39 = .ok (.goto 8, 3) := by decide +kernel
theorem dX6_value_42 : decode cX6_value 42 = .ok (.aload_n 0, 1) := by decide +kernel
theorem dX6_value_43 : decode cX6_value 43 = .ok (.iconst 0, 1) := by decide +kernel
theorem dX6_value_44 : decode cX6_value 44 = .ok (.invokevirtual 68, 3) := by decide +kernel
theorem dX6_value_47 : decode cX6_value 47 = .ok (.ireturn, 1) := by decide +kernel
theorem dX6_long__0 : decode cX6_long_ 0 = .ok (.aload_n 0, 1) := by decide +kernel
theorem dX6_long__1 : decode cX6_long_ 1 = .ok (.getfield 9, 3) := by decide +kernel
theorem dX6_long__4 : decode cX6_long_ 4 = .ok (.bipush 68, 2) := by decide +kernel
theorem dX6_long__6 : decode cX6_long_ 6 = .ok (.bipush 11, 2) := by decide +kernel
theorem dX6_long__8 : decode cX6_long_ 8 = .ok (.iload_n 1, 1) := by decide +kernel
theorem dX6_long__9 : decode cX6_long_ 9 = .ok (.imul, 1) := by decide +kernel
theorem dX6_long__10 : decode cX6_long_ 10 = .ok (.iadd, 1) := by decide +kernel
theorem dX6_long__11 : decode cX6_long_ 11 = .ok (.iaload, 1) := by decide +kernel
theorem dX6_long__12 : decode cX6_long_ 12 = .ok (.ireturn, 1) := by decide +kernel
theorem dX6_nth_0 : decode cX6_nth 0 = .ok (.aload_n 0, 1) := by decide +kernel
theorem dX6_nth_1 : decode cX6_nth 1 = .ok (.getfield 9, 3) := by decide +kernel
theorem dX6_nth_4 : decode cX6_nth 4 = .ok (.bipush 68, 2) := by decide +kernel
theorem dX6_nth_6 : decode cX6_nth 6 = .ok (.bipush 11, 2) := by decide +kernel
theorem dX6_nth_8 : decode cX6_nth 8 = .ok (.iload_n 1, 1) := by decide +kernel
theorem dX6_nth_9 : decode cX6_nth 9 = .ok (.imul, 1) := by decide +kernel
theorem dX6_nth_10 : decode cX6_nth 10 = .ok (.iadd, 1) := by decide +kernel
theorem dX6_nth_11 : decode cX6_nth 11 = .ok (.iconst 1, 1) := by decide +kernel
theorem dX6_nth_12 : decode cX6_nth 12 = .ok (.iadd, 1) := by decide +kernel
theorem dX6_nth_13 : decode cX6_nth 13 = .ok (.iload_n 2, 1) := by decide +kernel
theorem dX6_nth_14 : decode cX6_nth 14 = .ok (.iadd, 1) := by decide +kernel
theorem dX6_nth_15 : decode cX6_nth 15 = .ok (.iaload, 1) := by decide +kernel
theorem dX6_nth_16 : decode cX6_nth 16 = .ok (.ireturn, 1) := by decide +kernel
set_option maxRecDepth 20000 in
theorem ggX6_tale_X6_no : GoodIn wsX6_tale wsX6_no := goodIn_r _ [6, 7, 8, 9, 10, 11, 12, 13, 14, 15, 16, 17, 18, 19, 20, 21, 22, 23, 24, 25, 26, 27, 28] (by decide +kernel) (by decide +kernel)
set_option maxRecDepth 20000 in
theorem gX6_tale_X6_no : GoodIn wsX6_tale (wsV RX6 68 RX6 yX6_no wsX6_no) := goodIn_app (goodIn_of _ (by decide +kernel)) ggX6_tale_X6_no
theorem dX6_tale_0 : decode cX6_tale 0 = .ok (.aload_n 0, 1) := by decide +kernel
theorem dX6_tale_1 : decode cX6_tale 1 = .ok (.getfield 9, 3) := by decide +kernel
theorem dX6_tale_4 : decode cX6_tale 4 = .ok (.iconst 2, 1) := by decide +kernel
theorem dX6_tale_5 : decode cX6_tale 5 = .ok (.iaload, 1) := by decide +kernel
theorem dX6_tale_6 : decode cX6_tale 6 = .ok (.bipush 8, 2) := by decide +kernel
theorem dX6_tale_8 : decode cX6_tale 8 = .ok (.if_icmp .ne 9, 3) := by decide +kernel
theorem dX6_tale_11 : decode cX6_tale 11 = .ok (.aload_n 0, 1) := by decide +kernel
theorem dX6_tale_12 : decode cX6_tale 12 = .ok (.iconst 1, 1) := by decide +kernel
theorem dX6_tale_13 : decode cX6_tale 13 = .ok (.invokevirtual 68, 3) := by decide +kernel
theorem dX6_tale_16 : decode cX6_tale 16 = .ok (.ireturn, 1) := by decide +kernel
theorem dX6_tale_17 : decode cX6_tale 17 = .ok (.aload_n 0, 1) := by decide +kernel
theorem dX6_tale_18 : decode cX6_tale 18 = .ok (.getfield 9, 3) := by decide +kernel
theorem dX6_tale_21 : decode cX6_tale 21 = .ok (.bipush 68, 2) := by decide +kernel
theorem dX6_tale_23 : decode cX6_tale 23 = .ok (.bipush 11, 2) := by decide +kernel
theorem dX6_tale_25 : decode cX6_tale 25 = .ok (.aload_n 0, 1) := by decide +kernel
theorem dX6_tale_26 : decode cX6_tale 26 = .ok (.getfield 9, 3) := by decide +kernel
theorem dX6_tale_29 : decode cX6_tale 29 = .ok (.iconst 2, 1) := by decide +kernel
theorem dX6_tale_30 : decode cX6_tale 30 = .ok (.iaload, 1) := by decide +kernel
theorem dX6_tale_31 : decode cX6_tale 31 = .ok (.imul, 1) := by decide +kernel
theorem dX6_tale_32 : decode cX6_tale 32 = .ok (.iadd, 1) := by decide +kernel
theorem dX6_tale_33 : decode cX6_tale 33 = .ok (.iconst 0, 1) := by decide +kernel
theorem dX6_tale_34 : decode cX6_tale 34 = .ok (.iastore, 1) := by decide +kernel
theorem dX6_tale_35 : decode cX6_tale 35 = .ok (.aload_n 0, 1) := by decide +kernel
theorem dX6_tale_36 : decode cX6_tale 36 = .ok (.getfield 9, 3) := by decide +kernel
theorem dX6_tale_39 : decode cX6_tale 39 = .ok (.iconst 2, 1) := by decide +kernel
theorem dX6_tale_40 : decode cX6_tale 40 = .ok (.dup2, 1) := by decide +kernel
theorem dX6_tale_41 : decode cX6_tale 41 = .ok (.iaload, 1) := by decide +kernel
theorem dX6_tale_42 : decode cX6_tale 42 = .ok (.iconst 1, 1) := by decide +kernel
theorem dX6_tale_43 : decode cX6_tale 43 = .ok (.iadd, 1) := by decide +kernel
theorem dX6_tale_44 : decode cX6_tale 44 = .ok (.iastore, 1) := by decide +kernel
theorem dX6_tale_45 : decode cX6_tale 45 = .ok (.aload_n 0, 1) := by decide +kernel
theorem dX6_tale_46 : decode cX6_tale 46 = .ok (.getfield 9, 3) := by decide +kernel
theorem dX6_tale_49 : decode cX6_tale 49 = .ok (.iconst 2, 1) := by decide +kernel
theorem dX6_tale_50 : decode cX6_tale 50 = .ok (.iaload, 1) := by decide +kernel
theorem dX6_tale_51 : decode cX6_tale 51 = .ok (.iconst 1, 1) := by decide +kernel
theorem dX6_tale_52 : decode cX6_tale 52 = .ok (.isub, 1) := by decide +kernel
theorem dX6_tale_53 : decode cX6_tale 53 = .ok (.ireturn, 1) := by decide +kernel
theorem dX6_tells_0 : decode cX6_tells 0 = .ok (.bipush 68, 2) := by decide +kernel
theorem dX6_tells_2 : decode cX6_tells 2 = .ok (.bipush 11, 2) := by decide +kernel
theorem dX6_tells_4 : decode cX6_tells 4 = .ok (.iload_n 1, 1) := by decide +kernel
theorem dX6_tells_5 : decode cX6_tells 5 = .ok (.imul, 1) := by decide +kernel
theorem dX6_tells_6 : decode cX6_tells 6 = .ok (.iadd, 1) := by decide +kernel
theorem dX6_tells_7 : decode cX6_tells 7 = .ok (.istore_n 3, 1) := by decide +kernel
theorem dX6_tells_8 : decode cX6_tells 8 = .ok (.aload_n 0, 1) := by decide +kernel
theorem dX6_tells_9 : decode cX6_tells 9 = .ok (.getfield 9, 3) := by decide +kernel
theorem dX6_tells_12 : decode cX6_tells 12 = .ok (.iload_n 3, 1) := by decide +kernel
theorem dX6_tells_13 : decode cX6_tells 13 = .ok (.dup2, 1) := by decide +kernel
theorem dX6_tells_14 : decode cX6_tells 14 = .ok (.iaload, 1) := by decide +kernel
theorem dX6_tells_15 : decode cX6_tells 15 = .ok (.iconst 1, 1) := by decide +kernel
theorem dX6_tells_16 : decode cX6_tells 16 = .ok (.iadd, 1) := by decide +kernel
theorem dX6_tells_17 : decode cX6_tells 17 = .ok (.iastore, 1) := by decide +kernel
theorem dX6_tells_18 : decode cX6_tells 18 = .ok (.aload_n 0, 1) := by decide +kernel
theorem dX6_tells_19 : decode cX6_tells 19 = .ok (.getfield 9, 3) := by decide +kernel
theorem dX6_tells_22 : decode cX6_tells 22 = .ok (.iload_n 3, 1) := by decide +kernel
theorem dX6_tells_23 : decode cX6_tells 23 = .ok (.aload_n 0, 1) := by decide +kernel
theorem dX6_tells_24 : decode cX6_tells 24 = .ok (.getfield 9, 3) := by decide +kernel
theorem dX6_tells_27 : decode cX6_tells 27 = .ok (.iload_n 3, 1) := by decide +kernel
theorem dX6_tells_28 : decode cX6_tells 28 = .ok (.iaload, 1) := by decide +kernel
theorem dX6_tells_29 : decode cX6_tells 29 = .ok (.iadd, 1) := by decide +kernel
theorem dX6_tells_30 : decode cX6_tells 30 = .ok (.iload_n 2, 1) := by decide +kernel
theorem dX6_tells_31 : decode cX6_tells 31 = .ok (.iastore, 1) := by decide +kernel
theorem dX6_tells_32 : decode cX6_tells 32 = .ok (.return_, 1) := by decide +kernel
set_option maxRecDepth 20000 in
theorem ggX6_tell_X6_isTale : GoodIn wsX6_tell wsX6_isTale := goodIn_r _ [5, 6, 7, 8, 4, 9, 28, 29, 30, 31, 32, 33, 34, 35, 36, 37, 38, 39, 40, 41, 42, 43, 44, 45, 46, 47] (by decide +kernel) (by decide +kernel)
set_option maxRecDepth 20000 in
theorem gX6_tell_X6_isTale : GoodIn wsX6_tell (wsV RX6 102 RX6 yX6_isTale wsX6_isTale) := goodIn_app (goodIn_of _ (by decide +kernel)) ggX6_tell_X6_isTale
set_option maxRecDepth 20000 in
theorem ggX6_tell_X6_isPart : GoodIn wsX6_tell wsX6_isPart := goodIn_r _ [13, 6, 7, 8, 4, 9, 28, 29, 30, 31, 32, 33, 34, 35, 36, 37, 38, 39, 40, 41, 42, 43, 44, 45, 46, 47] (by decide +kernel) (by decide +kernel)
set_option maxRecDepth 20000 in
theorem gX6_tell_X6_isPart : GoodIn wsX6_tell (wsV RX6 87 RX6 yX6_isPart wsX6_isPart) := goodIn_app (goodIn_of _ (by decide +kernel)) ggX6_tell_X6_isPart
set_option maxRecDepth 20000 in
theorem ggX6_tell_X6_no : GoodIn wsX6_tell wsX6_no := goodIn_r _ [17, 18, 19, 28, 29, 30, 31, 32, 33, 34, 35, 36, 37, 38, 39, 40, 41, 42, 43, 44, 45, 46, 47] (by decide +kernel) (by decide +kernel)
set_option maxRecDepth 20000 in
theorem gX6_tell_X6_no : GoodIn wsX6_tell (wsV RX6 68 RX6 yX6_no wsX6_no) := goodIn_app (goodIn_of _ (by decide +kernel)) ggX6_tell_X6_no
set_option maxRecDepth 20000 in
theorem ggX6_tell_X6_long_ : GoodIn wsX6_tell wsX6_long_ := goodIn_r _ [23, 6, 28, 29, 30, 31, 32, 33, 34, 35, 36, 37, 38, 39, 40, 41, 42, 43, 44, 45, 46, 47] (by decide +kernel) (by decide +kernel)
set_option maxRecDepth 20000 in
theorem gX6_tell_X6_long_ : GoodIn wsX6_tell (wsV RX6 105 RX6 yX6_long_ wsX6_long_) := goodIn_app (goodIn_of _ (by decide +kernel)) ggX6_tell_X6_long_
set_option maxRecDepth 20000 in
theorem ggX6_tell_X6_tells : GoodIn wsX6_tell wsX6_tells := goodIn_r _ [27, 6, 28, 29, 30, 31, 32, 33, 34, 35, 36, 37, 38, 39, 40, 41, 42, 43, 44, 45, 46, 47] (by decide +kernel) (by decide +kernel)
set_option maxRecDepth 20000 in
theorem gX6_tell_X6_tells : GoodIn wsX6_tell (wsV RX6 108 RX6 yX6_tells wsX6_tells) := goodIn_app (goodIn_of _ (by decide +kernel)) ggX6_tell_X6_tells
theorem dX6_tell_0 : decode cX6_tell 0 = .ok (.aload_n 0, 1) := by decide +kernel
theorem dX6_tell_1 : decode cX6_tell 1 = .ok (.iload_n 1, 1) := by decide +kernel
theorem dX6_tell_2 : decode cX6_tell 2 = .ok (.invokevirtual 102, 3) := by decide +kernel
theorem dX6_tell_5 : decode cX6_tell 5 = .ok (.ifCond .eq 11, 3) := by decide +kernel
theorem dX6_tell_8 : decode cX6_tell 8 = .ok (.aload_n 0, 1) := by decide +kernel
theorem dX6_tell_9 : decode cX6_tell 9 = .ok (.iload_n 2, 1) := by decide +kernel
theorem dX6_tell_10 : decode cX6_tell 10 = .ok (.invokevirtual 87, 3) := by decide +kernel
theorem dX6_tell_13 : decode cX6_tell 13 = .ok (.ifCond .ne 9, 3) := by decide +kernel
theorem dX6_tell_16 : decode cX6_tell 16 = .ok (.aload_n 0, 1) := by decide +kernel
theorem dX6_tell_17 : decode cX6_tell 17 = .ok (.iconst 0, 1) := by decide +kernel
theorem dX6_tell_18 : decode cX6_tell 18 = .ok (.invokevirtual 68, 3) := by decide +kernel
theorem dX6_tell_21 : decode cX6_tell 21 = .ok (.ireturn, 1) := by decide +kernel
theorem dX6_tell_22 : decode cX6_tell 22 = .ok (.aload_n 0, 1) := by decide +kernel
theorem dX6_tell_23 : decode cX6_tell 23 = .ok (.iload_n 1, 1) := by decide +kernel
theorem dX6_tell_24 : decode cX6_tell 24 = .ok (.invokevirtual 105, 3) := by decide +kernel
theorem dX6_tell_27 : decode cX6_tell 27 = .ok (.bipush 10, 2) := by decide +kernel
theorem dX6_tell_29 : decode cX6_tell 29 = .ok (.if_icmp .ne 9, 3) := by decide +kernel
theorem dX6_tell_32 : decode cX6_tell 32 = .ok (.aload_n 0, 1) := by decide +kernel
theorem dX6_tell_33 : decode cX6_tell 33 = .ok (.iconst 1, 1) := by decide +kernel
theorem dX6_tell_34 : decode cX6_tell 34 = .ok (.invokevirtual 68, 3) := by decide +kernel
theorem dX6_tell_37 : decode cX6_tell 37 = .ok (.ireturn, 1) := by decide +kernel
theorem dX6_tell_38 : decode cX6_tell 38 = .ok (.aload_n 0, 1) := by decide +kernel
theorem dX6_tell_39 : decode cX6_tell 39 = .ok (.iload_n 1, 1) := by decide +kernel
theorem dX6_tell_40 : decode cX6_tell 40 = .ok (.iload_n 2, 1) := by decide +kernel
theorem dX6_tell_41 : decode cX6_tell 41 = .ok (.invokevirtual 108, 3) := by decide +kernel
theorem dX6_tell_44 : decode cX6_tell 44 = .ok (.aload_n 0, 1) := by decide +kernel
theorem dX6_tell_45 : decode cX6_tell 45 = .ok (.iload_n 1, 1) := by decide +kernel
theorem dX6_tell_46 : decode cX6_tell 46 = .ok (.invokevirtual 105, 3) := by decide +kernel
theorem dX6_tell_49 : decode cX6_tell 49 = .ok (.ireturn, 1) := by decide +kernel
set_option maxRecDepth 20000 in
theorem ggX6_cut_X6_isTale : GoodIn wsX6_cut wsX6_isTale := goodIn_r _ [6, 1, 7, 8, 5, 9, 24, 25, 26, 27, 28, 29, 30, 31, 32, 33, 34, 35, 36, 37, 38, 39, 40, 41, 42, 43] (by decide +kernel) (by decide +kernel)
set_option maxRecDepth 20000 in
theorem gX6_cut_X6_isTale : GoodIn wsX6_cut (wsV RX6 102 RX6 yX6_isTale wsX6_isTale) := goodIn_app (goodIn_of _ (by decide +kernel)) ggX6_cut_X6_isTale
set_option maxRecDepth 20000 in
theorem ggX6_cut_X6_no : GoodIn wsX6_cut wsX6_no := goodIn_r _ [13, 14, 15, 24, 25, 26, 27, 28, 29, 30, 31, 32, 33, 34, 35, 36, 37, 38, 39, 40, 41, 42, 43] (by decide +kernel) (by decide +kernel)
set_option maxRecDepth 20000 in
theorem gX6_cut_X6_no : GoodIn wsX6_cut (wsV RX6 68 RX6 yX6_no wsX6_no) := goodIn_app (goodIn_of _ (by decide +kernel)) ggX6_cut_X6_no
set_option maxRecDepth 20000 in
theorem ggX6_cut_X6_long_ : GoodIn wsX6_cut wsX6_long_ := goodIn_r _ [19, 1, 24, 25, 26, 27, 28, 29, 30, 31, 32, 33, 34, 35, 36, 37, 38, 39, 40, 41, 42, 43] (by decide +kernel) (by decide +kernel)
set_option maxRecDepth 20000 in
theorem gX6_cut_X6_long_ : GoodIn wsX6_cut (wsV RX6 105 RX6 yX6_long_ wsX6_long_) := goodIn_app (goodIn_of _ (by decide +kernel)) ggX6_cut_X6_long_
set_option maxRecDepth 20000 in
theorem ggX6_cut_X6_nth : GoodIn wsX6_cut wsX6_nth := goodIn_r _ [23, 1, 24, 25, 26, 27, 28, 29, 30, 31, 32, 33, 34, 35, 36, 37, 38, 39, 40, 41, 42, 43] (by decide +kernel) (by decide +kernel)
set_option maxRecDepth 20000 in
theorem gX6_cut_X6_nth : GoodIn wsX6_cut (wsV RX6 112 RX6 yX6_nth wsX6_nth) := goodIn_app (goodIn_of _ (by decide +kernel)) ggX6_cut_X6_nth
theorem dX6_cut_0 : decode cX6_cut 0 = .ok (.aload_n 0, 1) := by decide +kernel
theorem dX6_cut_1 : decode cX6_cut 1 = .ok (.iload_n 1, 1) := by decide +kernel
theorem dX6_cut_2 : decode cX6_cut 2 = .ok (.invokevirtual 102, 3) := by decide +kernel
theorem dX6_cut_5 : decode cX6_cut 5 = .ok (.ifCond .ne 9, 3) := by decide +kernel
theorem dX6_cut_8 : decode cX6_cut 8 = .ok (.aload_n 0, 1) := by decide +kernel
theorem dX6_cut_9 : decode cX6_cut 9 = .ok (.iconst 0, 1) := by decide +kernel
theorem dX6_cut_10 : decode cX6_cut 10 = .ok (.invokevirtual 68, 3) := by decide +kernel
theorem dX6_cut_13 : decode cX6_cut 13 = .ok (.ireturn, 1) := by decide +kernel
theorem dX6_cut_14 : decode cX6_cut 14 = .ok (.aload_n 0, 1) := by decide +kernel
theorem dX6_cut_15 : decode cX6_cut 15 = .ok (.iload_n 1, 1) := by decide +kernel
theorem dX6_cut_16 : decode cX6_cut 16 = .ok (.invokevirtual 105, 3) := by decide +kernel
theorem dX6_cut_19 : decode cX6_cut 19 = .ok (.ifCond .ne 9, 3) := by decide +kernel
theorem dX6_cut_22 : decode cX6_cut 22 = .ok (.aload_n 0, 1) := by decide +kernel
theorem dX6_cut_23 : decode cX6_cut 23 = .ok (.iconst 3, 1) := by decide +kernel
theorem dX6_cut_24 : decode cX6_cut 24 = .ok (.invokevirtual 68, 3) := by decide +kernel
theorem dX6_cut_27 : decode cX6_cut 27 = .ok (.ireturn, 1) := by decide +kernel
theorem dX6_cut_28 : decode cX6_cut 28 = .ok (.aload_n 0, 1) := by decide +kernel
theorem dX6_cut_29 : decode cX6_cut 29 = .ok (.getfield 9, 3) := by decide +kernel
theorem dX6_cut_32 : decode cX6_cut 32 = .ok (.bipush 68, 2) := by decide +kernel
theorem dX6_cut_34 : decode cX6_cut 34 = .ok (.bipush 11, 2) := by decide +kernel
theorem dX6_cut_36 : decode cX6_cut 36 = .ok (.iload_n 1, 1) := by decide +kernel
theorem dX6_cut_37 : decode cX6_cut 37 = .ok (.imul, 1) := by decide +kernel
theorem dX6_cut_38 : decode cX6_cut 38 = .ok (.iadd, 1) := by decide +kernel
theorem dX6_cut_39 : decode cX6_cut 39 = .ok (.dup2, 1) := by decide +kernel
theorem dX6_cut_40 : decode cX6_cut 40 = .ok (.iaload, 1) := by decide +kernel
theorem dX6_cut_41 : decode cX6_cut 41 = .ok (.iconst 1, 1) := by decide +kernel
theorem dX6_cut_42 : decode cX6_cut 42 = .ok (.isub, 1) := by decide +kernel
theorem dX6_cut_43 : decode cX6_cut 43 = .ok (.iastore, 1) := by decide +kernel
theorem dX6_cut_44 : decode cX6_cut 44 = .ok (.aload_n 0, 1) := by decide +kernel
theorem dX6_cut_45 : decode cX6_cut 45 = .ok (.iload_n 1, 1) := by decide +kernel
theorem dX6_cut_46 : decode cX6_cut 46 = .ok (.aload_n 0, 1) := by decide +kernel
theorem dX6_cut_47 : decode cX6_cut 47 = .ok (.iload_n 1, 1) := by decide +kernel
theorem dX6_cut_48 : decode cX6_cut 48 = .ok (.invokevirtual 105, 3) := by decide +kernel
theorem dX6_cut_51 : decode cX6_cut 51 = .ok (.invokevirtual 112, 3) := by decide +kernel
theorem dX6_cut_54 : decode cX6_cut 54 = .ok (.ireturn, 1) := by decide +kernel
set_option maxRecDepth 20000 in
theorem ggX6_ith_X6_isTale : GoodIn wsX6_ith wsX6_isTale := goodIn_r _ [5, 6, 7, 8, 4, 9, 24, 25, 26, 27, 28, 29, 30, 31, 32, 33, 34, 35, 36, 37, 38, 39, 40, 41, 42, 43] (by decide +kernel) (by decide +kernel)
set_option maxRecDepth 20000 in
theorem gX6_ith_X6_isTale : GoodIn wsX6_ith (wsV RX6 102 RX6 yX6_isTale wsX6_isTale) := goodIn_app (goodIn_of _ (by decide +kernel)) ggX6_ith_X6_isTale
set_option maxRecDepth 20000 in
theorem ggX6_ith_X6_long_ : GoodIn wsX6_ith wsX6_long_ := goodIn_r _ [13, 6, 24, 25, 26, 27, 28, 29, 30, 31, 32, 33, 34, 35, 36, 37, 38, 39, 40, 41, 42, 43] (by decide +kernel) (by decide +kernel)
set_option maxRecDepth 20000 in
theorem gX6_ith_X6_long_ : GoodIn wsX6_ith (wsV RX6 105 RX6 yX6_long_ wsX6_long_) := goodIn_app (goodIn_of _ (by decide +kernel)) ggX6_ith_X6_long_
set_option maxRecDepth 20000 in
theorem ggX6_ith_X6_in : GoodIn wsX6_ith wsX6_in := goodIn_r _ [9] (by decide +kernel) (by decide +kernel)
set_option maxRecDepth 20000 in
theorem gX6_ith_X6_in : GoodIn wsX6_ith (va_wsS RX6 57 yX6_in wsX6_in) := goodIn_app (goodIn_of _ (by decide +kernel)) ggX6_ith_X6_in
set_option maxRecDepth 20000 in
theorem ggX6_ith_X6_nth : GoodIn wsX6_ith wsX6_nth := goodIn_r _ [17, 6, 24, 25, 26, 27, 28, 29, 30, 31, 32, 33, 34, 35, 36, 37, 38, 39, 40, 41, 42, 43] (by decide +kernel) (by decide +kernel)
set_option maxRecDepth 20000 in
theorem gX6_ith_X6_nth : GoodIn wsX6_ith (wsV RX6 112 RX6 yX6_nth wsX6_nth) := goodIn_app (goodIn_of _ (by decide +kernel)) ggX6_ith_X6_nth
set_option maxRecDepth 20000 in
theorem ggX6_ith_X6_no : GoodIn wsX6_ith wsX6_no := goodIn_r _ [21, 22, 23, 24, 25, 26, 27, 28, 29, 30, 31, 32, 33, 34, 35, 36, 37, 38, 39, 40, 41, 42, 43] (by decide +kernel) (by decide +kernel)
set_option maxRecDepth 20000 in
theorem gX6_ith_X6_no : GoodIn wsX6_ith (wsV RX6 68 RX6 yX6_no wsX6_no) := goodIn_app (goodIn_of _ (by decide +kernel)) ggX6_ith_X6_no
theorem dX6_ith_0 : decode cX6_ith 0 = .ok (.aload_n 0, 1) := by decide +kernel
theorem dX6_ith_1 : decode cX6_ith 1 = .ok (.iload_n 1, 1) := by decide +kernel
theorem dX6_ith_2 : decode cX6_ith 2 = .ok (.invokevirtual 102, 3) := by decide +kernel
theorem dX6_ith_5 : decode cX6_ith 5 = .ok (.ifCond .eq 27, 3) := by decide +kernel
theorem dX6_ith_8 : decode cX6_ith 8 = .ok (.iload_n 2, 1) := by decide +kernel
theorem dX6_ith_9 : decode cX6_ith 9 = .ok (.iconst 0, 1) := by decide +kernel
theorem dX6_ith_10 : decode cX6_ith 10 = .ok (.aload_n 0, 1) := by decide +kernel
theorem dX6_ith_11 : decode cX6_ith 11 = .ok (.iload_n 1, 1) := by decide +kernel
theorem dX6_ith_12 : decode cX6_ith 12 = .ok (.invokevirtual 105, 3) := by decide +kernel
theorem dX6_ith_15 : decode cX6_ith 15 = .ok (.iconst 1, 1) := by decide +kernel
theorem dX6_ith_16 : decode cX6_ith 16 = .ok (.isub, 1) := by decide +kernel
theorem dX6_ith_17 : decode cX6_ith 17 = .ok (.invokestatic 57, 3) := by decide +kernel
theorem dX6_ith_20 : decode cX6_ith 20 = .ok (.ifCond .eq 12, 3) := by decide +kernel
theorem dX6_ith_23 : decode cX6_ith 23 = .ok (.aload_n 0, 1) := by decide +kernel
theorem dX6_ith_24 : decode cX6_ith 24 = .ok (.iload_n 1, 1) := by decide +kernel
theorem dX6_ith_25 : decode cX6_ith 25 = .ok (.iload_n 2, 1) := by decide +kernel
theorem dX6_ith_26 : decode cX6_ith 26 = .ok (.invokevirtual 112, 3) := by decide +kernel
theorem dX6_ith_29 : decode cX6_ith 29 = .ok (.goto 8, 3) := by decide +kernel
theorem dX6_ith_32 : decode cX6_ith 32 = .ok (.aload_n 0, 1) := by decide +kernel
theorem dX6_ith_33 : decode cX6_ith 33 = .ok (.iconst 0, 1) := by decide +kernel
theorem dX6_ith_34 : decode cX6_ith 34 = .ok (.invokevirtual 68, 3) := by decide +kernel
theorem dX6_ith_37 : decode cX6_ith 37 = .ok (.ireturn, 1) := by decide +kernel
set_option maxRecDepth 20000 in
theorem ggX6_size_X6_isTale : GoodIn wsX6_size wsX6_isTale := goodIn_r _ [5, 6, 7, 8, 4, 9, 20, 21, 22, 23, 24, 25, 26, 27, 28, 29, 30, 31, 32, 33, 34, 35, 36, 37, 38, 39] (by decide +kernel) (by decide +kernel)
set_option maxRecDepth 20000 in
theorem gX6_size_X6_isTale : GoodIn wsX6_size (wsV RX6 102 RX6 yX6_isTale wsX6_isTale) := goodIn_app (goodIn_of _ (by decide +kernel)) ggX6_size_X6_isTale
set_option maxRecDepth 20000 in
theorem ggX6_size_X6_long_ : GoodIn wsX6_size wsX6_long_ := goodIn_r _ [13, 6, 20, 21, 22, 23, 24, 25, 26, 27, 28, 29, 30, 31, 32, 33, 34, 35, 36, 37, 38, 39] (by decide +kernel) (by decide +kernel)
set_option maxRecDepth 20000 in
theorem gX6_size_X6_long_ : GoodIn wsX6_size (wsV RX6 105 RX6 yX6_long_ wsX6_long_) := goodIn_app (goodIn_of _ (by decide +kernel)) ggX6_size_X6_long_
set_option maxRecDepth 20000 in
theorem ggX6_size_X6_no : GoodIn wsX6_size wsX6_no := goodIn_r _ [17, 18, 19, 20, 21, 22, 23, 24, 25, 26, 27, 28, 29, 30, 31, 32, 33, 34, 35, 36, 37, 38, 39] (by decide +kernel) (by decide +kernel)
set_option maxRecDepth 20000 in
theorem gX6_size_X6_no : GoodIn wsX6_size (wsV RX6 68 RX6 yX6_no wsX6_no) := goodIn_app (goodIn_of _ (by decide +kernel)) ggX6_size_X6_no
theorem dX6_size_0 : decode cX6_size 0 = .ok (.aload_n 0, 1) := by decide +kernel
theorem dX6_size_1 : decode cX6_size 1 = .ok (.iload_n 1, 1) := by decide +kernel
theorem dX6_size_2 : decode cX6_size 2 = .ok (.invokevirtual 102, 3) := by decide +kernel
theorem dX6_size_5 : decode cX6_size 5 = .ok (.ifCond .eq 11, 3) := by decide +kernel
theorem dX6_size_8 : decode cX6_size 8 = .ok (.aload_n 0, 1) := by decide +kernel
theorem dX6_size_9 : decode cX6_size 9 = .ok (.iload_n 1, 1) := by decide +kernel
theorem dX6_size_10 : decode cX6_size 10 = .ok (.invokevirtual 105, 3) := by decide +kernel
theorem dX6_size_13 : decode cX6_size 13 = .ok (.goto 8, 3) := by decide +kernel
theorem dX6_size_16 : decode cX6_size 16 = .ok (.aload_n 0, 1) := by decide +kernel
theorem dX6_size_17 : decode cX6_size 17 = .ok (.iconst 0, 1) := by decide +kernel
theorem dX6_size_18 : decode cX6_size 18 = .ok (.invokevirtual 68, 3) := by decide +kernel
theorem dX6_size_21 : decode cX6_size 21 = .ok (.ireturn, 1) := by decide +kernel
set_option maxRecDepth 20000 in
theorem ggX6_counts_X6_nth : GoodIn wsX6_counts wsX6_nth := goodIn_r _ [7, 8, 20, 21, 22, 23, 24, 25, 26, 27, 28, 29, 30, 31, 32, 33, 34, 35, 36, 37, 38, 39] (by decide +kernel) (by decide +kernel)
set_option maxRecDepth 20000 in
theorem gX6_counts_X6_nth : GoodIn wsX6_counts (wsV RX6 112 RX6 yX6_nth wsX6_nth) := goodIn_app (goodIn_of _ (by decide +kernel)) ggX6_counts_X6_nth
set_option maxRecDepth 20000 in
theorem ggX6_counts_X6_isLength : GoodIn wsX6_counts wsX6_isLength := goodIn_r _ [12, 13, 14, 15, 6, 16, 8, 17, 18, 19, 20, 21, 22, 23, 24, 25, 26, 27, 28, 29, 30, 31, 32, 33, 34, 35, 36, 37, 38, 39] (by decide +kernel) (by decide +kernel)
set_option maxRecDepth 20000 in
theorem gX6_counts_X6_isLength : GoodIn wsX6_counts (wsV RX6 83 RX6 yX6_isLength wsX6_isLength) := goodIn_app (goodIn_of _ (by decide +kernel)) ggX6_counts_X6_isLength
theorem dX6_counts_0 : decode cX6_counts 0 = .ok (.iconst 0, 1) := by decide +kernel
theorem dX6_counts_1 : decode cX6_counts 1 = .ok (.istore_n 3, 1) := by decide +kernel
theorem dX6_counts_2 : decode cX6_counts 2 = .ok (.iload_n 3, 1) := by decide +kernel
theorem dX6_counts_3 : decode cX6_counts 3 = .ok (.bipush 120, 2) := by decide +kernel
theorem dX6_counts_5 : decode cX6_counts 5 = .ok (.if_icmp .gt 24, 3) := by decide +kernel
theorem dX6_counts_8 : decode cX6_counts 8 = .ok (.aload_n 0, 1) := by decide +kernel
theorem dX6_counts_9 : decode cX6_counts 9 = .ok (.getfield 22, 3) := by decide +kernel
theorem dX6_counts_12 : decode cX6_counts 12 = .ok (.iload_n 3, 1) := by decide +kernel
theorem dX6_counts_13 : decode cX6_counts 13 = .ok (.iload_n 3, 1) := by decide +kernel
theorem dX6_counts_14 : decode cX6_counts 14 = .ok (.ifCond .ne 7, 3) := by decide +kernel
theorem dX6_counts_17 : decode cX6_counts 17 = .ok (.lconst 1, 1) := by decide +kernel
theorem dX6_counts_18 : decode cX6_counts 18 = .ok (.goto 4, 3) := by decide +kernel
theorem dX6_counts_21 : decode cX6_counts 21 = .ok (.lconst 0, 1) := by decide +kernel
theorem dX6_counts_22 : decode cX6_counts 22 = .ok (.lastore, 1) := by decide +kernel
theorem dX6_counts_23 : decode cX6_counts 23 = .ok (.iinc 3 1, 3) := by decide +kernel
theorem dX6_counts_26 : decode cX6_counts 26 = .ok (.goto (-24), 3) := by decide +kernel
theorem dX6_counts_29 : decode cX6_counts 29 = .ok (.iconst 0, 1) := by decide +kernel
theorem dX6_counts_30 : decode cX6_counts 30 = .ok (.istore_n 3, 1) := by decide +kernel
theorem dX6_counts_31 : decode cX6_counts 31 = .ok (.iload_n 3, 1) := by decide +kernel
theorem dX6_counts_32 : decode cX6_counts 32 = .ok (.iload_n 2, 1) := by decide +kernel
theorem dX6_counts_33 : decode cX6_counts 33 = .ok (.if_icmp .ge 125, 3) := by decide +kernel
theorem dX6_counts_36 : decode cX6_counts 36 = .ok (.iconst 0, 1) := by decide +kernel
theorem dX6_counts_37 : decode cX6_counts 37 = .ok (.istore 4, 2) := by decide +kernel
theorem dX6_counts_39 : decode cX6_counts 39 = .ok (.iload 4, 2) := by decide +kernel
theorem dX6_counts_41 : decode cX6_counts 41 = .ok (.bipush 120, 2) := by decide +kernel
theorem dX6_counts_43 : decode cX6_counts 43 = .ok (.if_icmp .gt 79, 3) := by decide +kernel
theorem dX6_counts_46 : decode cX6_counts 46 = .ok (.aload_n 0, 1) := by decide +kernel
theorem dX6_counts_47 : decode cX6_counts 47 = .ok (.getfield 26, 3) := by decide +kernel
theorem dX6_counts_50 : decode cX6_counts 50 = .ok (.iload 4, 2) := by decide +kernel
theorem dX6_counts_52 : decode cX6_counts 52 = .ok (.lconst 0, 1) := by decide +kernel
theorem dX6_counts_53 : decode cX6_counts 53 = .ok (.lastore, 1) := by decide +kernel
theorem dX6_counts_54 : decode cX6_counts 54 = .ok (.iconst 0, 1) := by decide +kernel
theorem dX6_counts_55 : decode cX6_counts 55 = .ok (.istore 5, 2) := by decide +kernel
theorem dX6_counts_57 : decode cX6_counts 57 = .ok (.iload 5, 2) := by decide +kernel
theorem dX6_counts_59 : decode cX6_counts 59 = .ok (.iload 4, 2) := by decide +kernel
theorem dX6_counts_61 : decode cX6_counts 61 = .ok (.if_icmp .gt 55, 3) := by decide +kernel
theorem dX6_counts_64 : decode cX6_counts 64 = .ok (.iload 5, 2) := by decide +kernel
theorem dX6_counts_66 : decode cX6_counts 66 = .ok (.bipush 25, 2) := by decide +kernel
theorem dX6_counts_68 : decode cX6_counts 68 = .ok (.if_icmp .ge 48, 3) := by decide +kernel
theorem dX6_counts_71 : decode cX6_counts 71 = .ok (.aload_n 0, 1) := by decide +kernel
theorem dX6_counts_72 : decode cX6_counts 72 = .ok (.getfield 26, 3) := by decide +kernel
theorem dX6_counts_75 : decode cX6_counts 75 = .ok (.iload 4, 2) := by decide +kernel
theorem dX6_counts_77 : decode cX6_counts 77 = .ok (.dup2, 1) := by decide +kernel
theorem dX6_counts_78 : decode cX6_counts 78 = .ok (.laload, 1) := by decide +kernel
theorem dX6_counts_79 : decode cX6_counts 79 = .ok (.aload_n 0, 1) := by decide +kernel
theorem dX6_counts_80 : decode cX6_counts 80 = .ok (.aload_n 0, 1) := by decide +kernel
theorem dX6_counts_81 : decode cX6_counts 81 = .ok (.iload_n 1, 1) := by decide +kernel
theorem dX6_counts_82 : decode cX6_counts 82 = .ok (.iload_n 3, 1) := by decide +kernel
theorem dX6_counts_83 : decode cX6_counts 83 = .ok (.invokevirtual 112, 3) := by decide +kernel
theorem dX6_counts_86 : decode cX6_counts 86 = .ok (.iload 5, 2) := by decide +kernel
theorem dX6_counts_88 : decode cX6_counts 88 = .ok (.invokevirtual 83, 3) := by decide +kernel
theorem dX6_counts_91 : decode cX6_counts 91 = .ok (.ifCond .eq 16, 3) := by decide +kernel
theorem dX6_counts_94 : decode cX6_counts 94 = .ok (.aload_n 0, 1) := by decide +kernel
theorem dX6_counts_95 : decode cX6_counts 95 = .ok (.getfield 22, 3) := by decide +kernel
theorem dX6_counts_98 : decode cX6_counts 98 = .ok (.iload 4, 2) := by decide +kernel
theorem dX6_counts_100 : decode cX6_counts 100 = .ok (.iload 5, 2) := by decide +kernel
theorem dX6_counts_102 : decode cX6_counts 102 = .ok (.isub, 1) := by decide +kernel
theorem dX6_counts_103 : decode cX6_counts 103 = .ok (.laload, 1) := by decide +kernel
theorem dX6_counts_104 : decode cX6_counts 104 = .ok (.goto 4, 3) := by decide +kernel
theorem dX6_counts_107 : decode cX6_counts 107 = .ok (.lconst 0, 1) := by decide +kernel
theorem dX6_counts_108 : decode cX6_counts 108 = .ok (.ladd, 1) := by decide +kernel
theorem dX6_counts_109 : decode cX6_counts 109 = .ok (.lastore, 1) := by decide +kernel
theorem dX6_counts_110 : decode cX6_counts 110 = .ok (.iinc 5 1, 3) := by decide +kernel
theorem dX6_counts_113 : decode cX6_counts 113 = .ok (.goto (-56), 3) := by decide +kernel
theorem dX6_counts_116 : decode cX6_counts 116 = .ok (.iinc 4 1, 3) := by decide +kernel
theorem dX6_counts_119 : decode cX6_counts 119 = .ok (.goto (-80), 3) := by decide +kernel
theorem dX6_counts_122 : decode cX6_counts 122 = .ok (.iconst 0, 1) := by decide +kernel
theorem dX6_counts_123 : decode cX6_counts 123 = .ok (.istore 4, 2) := by decide +kernel
theorem dX6_counts_125 : decode cX6_counts 125 = .ok (.iload 4, 2) := by decide +kernel
theorem dX6_counts_127 : decode cX6_counts 127 = .ok (.bipush 120, 2) := by decide +kernel
theorem dX6_counts_129 : decode cX6_counts 129 = .ok (.if_icmp .gt 23, 3) := by decide +kernel
theorem dX6_counts_132 : decode cX6_counts 132 = .ok (.aload_n 0, 1) := by decide +kernel
theorem dX6_counts_133 : decode cX6_counts 133 = .ok (.getfield 22, 3) := by decide +kernel
theorem dX6_counts_136 : decode cX6_counts 136 = .ok (.iload 4, 2) := by decide +kernel
theorem dX6_counts_138 : decode cX6_counts 138 = .ok (.aload_n 0, 1) := by decide +kernel
theorem dX6_counts_139 : decode cX6_counts 139 = .ok (.getfield 26, 3) := by decide +kernel
theorem dX6_counts_142 : decode cX6_counts 142 = .ok (.iload 4, 2) := by decide +kernel
theorem dX6_counts_144 : decode cX6_counts 144 = .ok (.laload, 1) := by decide +kernel
theorem dX6_counts_145 : decode cX6_counts 145 = .ok (.lastore, 1) := by decide +kernel
theorem dX6_counts_146 : decode cX6_counts 146 = .ok (.iinc 4 1, 3) := by decide +kernel
theorem dX6_counts_149 : decode cX6_counts 149 = .ok (.goto (-24), 3) := by decide +kernel
theorem dX6_counts_152 : decode cX6_counts 152 = .ok (.iinc 3 1, 3) := by decide +kernel
theorem dX6_counts_155 : decode cX6_counts 155 = .ok (.goto (-124), 3) := by decide +kernel
theorem dX6_counts_158 : decode cX6_counts 158 = .ok (.return_, 1) := by decide +kernel
set_option maxRecDepth 20000 in
theorem ggX6_canBe_X6_counts : GoodIn wsX6_canBe wsX6_counts := goodIn_r _ [6, 1, 7, 8, 9, 10, 5, 11, 12, 13, 14, 15, 16, 17, 18, 19, 20, 21, 22, 23, 24, 25, 26, 27, 28, 29, 30, 31, 32, 33, 34, 35, 36, 37, 38, 39, 40, 41, 42, 43] (by decide +kernel) (by decide +kernel)
set_option maxRecDepth 20000 in
theorem gX6_canBe_X6_counts : GoodIn wsX6_canBe (wsV RX6 115 RX6 yX6_counts wsX6_counts) := goodIn_app (goodIn_of _ (by decide +kernel)) ggX6_canBe_X6_counts
theorem dX6_canBe_0 : decode cX6_canBe 0 = .ok (.aload_n 0, 1) := by decide +kernel
theorem dX6_canBe_1 : decode cX6_canBe 1 = .ok (.iload_n 1, 1) := by decide +kernel
theorem dX6_canBe_2 : decode cX6_canBe 2 = .ok (.iload_n 2, 1) := by decide +kernel
theorem dX6_canBe_3 : decode cX6_canBe 3 = .ok (.invokevirtual 115, 3) := by decide +kernel
theorem dX6_canBe_6 : decode cX6_canBe 6 = .ok (.aload_n 0, 1) := by decide +kernel
theorem dX6_canBe_7 : decode cX6_canBe 7 = .ok (.getfield 22, 3) := by decide +kernel
theorem dX6_canBe_10 : decode cX6_canBe 10 = .ok (.iload_n 3, 1) := by decide +kernel
theorem dX6_canBe_11 : decode cX6_canBe 11 = .ok (.laload, 1) := by decide +kernel
theorem dX6_canBe_12 : decode cX6_canBe 12 = .ok (.lconst 0, 1) := by decide +kernel
theorem dX6_canBe_13 : decode cX6_canBe 13 = .ok (.lcmp, 1) := by decide +kernel
theorem dX6_canBe_14 : decode cX6_canBe 14 = .ok (.ifCond .le 7, 3) := by decide +kernel
theorem dX6_canBe_17 : decode cX6_canBe 17 = .ok (.iconst 1, 1) := by decide +kernel
theorem dX6_canBe_18 : decode cX6_canBe 18 = .ok (.goto 4, 3) := by decide +kernel
theorem dX6_canBe_21 : decode cX6_canBe 21 = .ok (.iconst 0, 1) := by decide +kernel
theorem dX6_canBe_22 : decode cX6_canBe 22 = .ok (.ireturn, 1) := by decide +kernel
set_option maxRecDepth 20000 in
theorem ggX6_ways_X6_isTale : GoodIn wsX6_ways wsX6_isTale := goodIn_r _ [6, 7, 8, 9, 5, 10, 44, 45, 46, 47, 48, 49, 50, 51, 52, 53, 54, 55, 56, 57, 58, 59, 60, 61, 62, 63] (by decide +kernel) (by decide +kernel)
set_option maxRecDepth 20000 in
theorem gX6_ways_X6_isTale : GoodIn wsX6_ways (wsV RX6 102 RX6 yX6_isTale wsX6_isTale) := goodIn_app (goodIn_of _ (by decide +kernel)) ggX6_ways_X6_isTale
set_option maxRecDepth 20000 in
theorem ggX6_ways_X6_isWords : GoodIn wsX6_ways wsX6_isWords := goodIn_r _ [13, 8, 9, 5, 10] (by decide +kernel) (by decide +kernel)
set_option maxRecDepth 20000 in
theorem gX6_ways_X6_isWords : GoodIn wsX6_ways (va_wsS RX6 118 yX6_isWords wsX6_isWords) := goodIn_app (goodIn_of _ (by decide +kernel)) ggX6_ways_X6_isWords
set_option maxRecDepth 20000 in
theorem ggX6_ways_X6_no : GoodIn wsX6_ways wsX6_no := goodIn_r _ [17, 18, 19, 44, 45, 46, 47, 48, 49, 50, 51, 52, 53, 54, 55, 56, 57, 58, 59, 60, 61, 62, 63] (by decide +kernel) (by decide +kernel)
set_option maxRecDepth 20000 in
theorem gX6_ways_X6_no : GoodIn wsX6_ways (wsV RX6 68 RX6 yX6_no wsX6_no) := goodIn_app (goodIn_of _ (by decide +kernel)) ggX6_ways_X6_no
set_option maxRecDepth 20000 in
theorem ggX6_ways_X6_long_ : GoodIn wsX6_ways wsX6_long_ := goodIn_r _ [23, 7, 44, 45, 46, 47, 48, 49, 50, 51, 52, 53, 54, 55, 56, 57, 58, 59, 60, 61, 62, 63] (by decide +kernel) (by decide +kernel)
set_option maxRecDepth 20000 in
theorem gX6_ways_X6_long_ : GoodIn wsX6_ways (wsV RX6 105 RX6 yX6_long_ wsX6_long_) := goodIn_app (goodIn_of _ (by decide +kernel)) ggX6_ways_X6_long_
set_option maxRecDepth 20000 in
theorem ggX6_ways_X6_counts : GoodIn wsX6_ways wsX6_counts := goodIn_r _ [27, 1, 28, 29, 30, 31, 5, 32, 7, 33, 34, 35, 36, 37, 38, 39, 40, 41, 42, 43, 44, 45, 46, 47, 48, 49, 50, 51, 52, 53, 54, 55, 56, 57, 58, 59, 60, 61, 62, 63] (by decide +kernel) (by decide +kernel)
set_option maxRecDepth 20000 in
theorem gX6_ways_X6_counts : GoodIn wsX6_ways (wsV RX6 115 RX6 yX6_counts wsX6_counts) := goodIn_app (goodIn_of _ (by decide +kernel)) ggX6_ways_X6_counts
theorem dX6_ways_0 : decode cX6_ways 0 = .ok (.aload_n 0, 1) := by decide +kernel
theorem dX6_ways_1 : decode cX6_ways 1 = .ok (.iload_n 1, 1) := by decide +kernel
theorem dX6_ways_2 : decode cX6_ways 2 = .ok (.invokevirtual 102, 3) := by decide +kernel
theorem dX6_ways_5 : decode cX6_ways 5 = .ok (.ifCond .eq 10, 3) := by decide +kernel
theorem dX6_ways_8 : decode cX6_ways 8 = .ok (.iload_n 2, 1) := by decide +kernel
theorem dX6_ways_9 : decode cX6_ways 9 = .ok (.invokestatic 118, 3) := by decide +kernel
theorem dX6_ways_12 : decode cX6_ways 12 = .ok (.ifCond .ne 10, 3) := by decide +kernel
theorem dX6_ways_15 : decode cX6_ways 15 = .ok (.aload_n 0, 1) := by decide +kernel
theorem dX6_ways_16 : decode cX6_ways 16 = .ok (.iconst 0, 1) := by decide +kernel
theorem dX6_ways_17 : decode cX6_ways 17 = .ok (.invokevirtual 68, 3) := by decide +kernel
theorem dX6_ways_20 : decode cX6_ways 20 = .ok (.i2l, 1) := by decide +kernel
theorem dX6_ways_21 : decode cX6_ways 21 = .ok (.lreturn, 1) := by decide +kernel
theorem dX6_ways_22 : decode cX6_ways 22 = .ok (.aload_n 0, 1) := by decide +kernel
theorem dX6_ways_23 : decode cX6_ways 23 = .ok (.iload_n 1, 1) := by decide +kernel
theorem dX6_ways_24 : decode cX6_ways 24 = .ok (.aload_n 0, 1) := by decide +kernel
theorem dX6_ways_25 : decode cX6_ways 25 = .ok (.iload_n 1, 1) := by decide +kernel
theorem dX6_ways_26 : decode cX6_ways 26 = .ok (.invokevirtual 105, 3) := by decide +kernel
theorem dX6_ways_29 : decode cX6_ways 29 = .ok (.invokevirtual 115, 3) := by decide +kernel
theorem dX6_ways_32 : decode cX6_ways 32 = .ok (.aload_n 0, 1) := by decide +kernel
theorem dX6_ways_33 : decode cX6_ways 33 = .ok (.getfield 22, 3) := by decide +kernel
theorem dX6_ways_36 : decode cX6_ways 36 = .ok (.iload_n 2, 1) := by decide +kernel
theorem dX6_ways_37 : decode cX6_ways 37 = .ok (.laload, 1) := by decide +kernel
theorem dX6_ways_38 : decode cX6_ways 38 = .ok (.lreturn, 1) := by decide +kernel
theorem dX6_ones_0 : decode cX6_ones 0 = .ok (.iconst 0, 1) := by decide +kernel
theorem dX6_ones_1 : decode cX6_ones 1 = .ok (.istore_n 1, 1) := by decide +kernel
theorem dX6_ones_2 : decode cX6_ones 2 = .ok (.iconst 0, 1) := by decide +kernel
theorem dX6_ones_3 : decode cX6_ones 3 = .ok (.istore_n 2, 1) := by decide +kernel
theorem dX6_ones_4 : decode cX6_ones 4 = .ok (.iload_n 2, 1) := by decide +kernel
theorem dX6_ones_5 : decode cX6_ones 5 = .ok (.bipush 25, 2) := by decide +kernel
theorem dX6_ones_7 : decode cX6_ones 7 = .ok (.if_icmp .ge 17, 3) := by decide +kernel
theorem dX6_ones_10 : decode cX6_ones 10 = .ok (.iload_n 1, 1) := by decide +kernel
theorem dX6_ones_11 : decode cX6_ones 11 = .ok (.iload_n 0, 1) := by decide +kernel
theorem dX6_ones_12 : decode cX6_ones 12 = .ok (.iload_n 2, 1) := by decide +kernel
theorem dX6_ones_13 : decode cX6_ones 13 = .ok (.ishr, 1) := by decide +kernel
theorem dX6_ones_14 : decode cX6_ones 14 = .ok (.iconst 1, 1) := by decide +kernel
theorem dX6_ones_15 : decode cX6_ones 15 = .ok (.iand, 1) := by decide +kernel
theorem dX6_ones_16 : decode cX6_ones 16 = .ok (.iadd, 1) := by decide +kernel
theorem dX6_ones_17 : decode cX6_ones 17 = .ok (.istore_n 1, 1) := by decide +kernel
theorem dX6_ones_18 : decode cX6_ones 18 = .ok (.iinc 2 1, 3) := by decide +kernel
theorem dX6_ones_21 : decode cX6_ones 21 = .ok (.goto (-17), 3) := by decide +kernel
theorem dX6_ones_24 : decode cX6_ones 24 = .ok (.iload_n 1, 1) := by decide +kernel
theorem dX6_ones_25 : decode cX6_ones 25 = .ok (.ireturn, 1) := by decide +kernel
set_option maxRecDepth 20000 in
theorem ggX6_allWays_X6_isTale : GoodIn wsX6_allWays wsX6_isTale := goodIn_r _ [5, 6, 7, 8, 4, 9, 42, 43, 44, 45, 46, 47, 48, 49, 50, 51, 52, 53, 54, 55, 56, 57, 58, 59, 60, 61] (by decide +kernel) (by decide +kernel)
set_option maxRecDepth 20000 in
theorem gX6_allWays_X6_isTale : GoodIn wsX6_allWays (wsV RX6 102 RX6 yX6_isTale wsX6_isTale) := goodIn_app (goodIn_of _ (by decide +kernel)) ggX6_allWays_X6_isTale
set_option maxRecDepth 20000 in
theorem ggX6_allWays_X6_no : GoodIn wsX6_allWays wsX6_no := goodIn_r _ [13, 14, 15, 42, 43, 44, 45, 46, 47, 48, 49, 50, 51, 52, 53, 54, 55, 56, 57, 58, 59, 60, 61] (by decide +kernel) (by decide +kernel)
set_option maxRecDepth 20000 in
theorem gX6_allWays_X6_no : GoodIn wsX6_allWays (wsV RX6 68 RX6 yX6_no wsX6_no) := goodIn_app (goodIn_of _ (by decide +kernel)) ggX6_allWays_X6_no
set_option maxRecDepth 20000 in
theorem ggX6_allWays_X6_long_ : GoodIn wsX6_allWays wsX6_long_ := goodIn_r _ [19, 6, 42, 43, 44, 45, 46, 47, 48, 49, 50, 51, 52, 53, 54, 55, 56, 57, 58, 59, 60, 61] (by decide +kernel) (by decide +kernel)
set_option maxRecDepth 20000 in
theorem gX6_allWays_X6_long_ : GoodIn wsX6_allWays (wsV RX6 105 RX6 yX6_long_ wsX6_long_) := goodIn_app (goodIn_of _ (by decide +kernel)) ggX6_allWays_X6_long_
set_option maxRecDepth 20000 in
theorem ggX6_allWays_X6_nth : GoodIn wsX6_allWays wsX6_nth := goodIn_r _ [23, 6, 42, 43, 44, 45, 46, 47, 48, 49, 50, 51, 52, 53, 54, 55, 56, 57, 58, 59, 60, 61] (by decide +kernel) (by decide +kernel)
set_option maxRecDepth 20000 in
theorem gX6_allWays_X6_nth : GoodIn wsX6_allWays (wsV RX6 112 RX6 yX6_nth wsX6_nth) := goodIn_app (goodIn_of _ (by decide +kernel)) ggX6_allWays_X6_nth
set_option maxRecDepth 20000 in
theorem ggX6_allWays_X6_lengths : GoodIn wsX6_allWays wsX6_lengths := goodIn_r _ [27, 28, 29, 30, 4, 31, 32, 33, 34, 35, 6, 36, 37, 38, 42, 43, 44, 45, 46, 47, 48, 49, 50, 51, 52, 53, 54, 55, 56, 57, 58, 59, 60, 61] (by decide +kernel) (by decide +kernel)
set_option maxRecDepth 20000 in
theorem gX6_allWays_X6_lengths : GoodIn wsX6_allWays (wsV RX6 90 RX6 yX6_lengths wsX6_lengths) := goodIn_app (goodIn_of _ (by decide +kernel)) ggX6_allWays_X6_lengths
set_option maxRecDepth 20000 in
theorem ggX6_allWays_X6_ones : GoodIn wsX6_allWays wsX6_ones := goodIn_r _ [41] (by decide +kernel) (by decide +kernel)
set_option maxRecDepth 20000 in
theorem gX6_allWays_X6_ones : GoodIn wsX6_allWays (va_wsS RX6 121 yX6_ones wsX6_ones) := goodIn_app (goodIn_of _ (by decide +kernel)) ggX6_allWays_X6_ones
theorem dX6_allWays_0 : decode cX6_allWays 0 = .ok (.aload_n 0, 1) := by decide +kernel
theorem dX6_allWays_1 : decode cX6_allWays 1 = .ok (.iload_n 1, 1) := by decide +kernel
theorem dX6_allWays_2 : decode cX6_allWays 2 = .ok (.invokevirtual 102, 3) := by decide +kernel
theorem dX6_allWays_5 : decode cX6_allWays 5 = .ok (.ifCond .ne 10, 3) := by decide +kernel
theorem dX6_allWays_8 : decode cX6_allWays 8 = .ok (.aload_n 0, 1) := by decide +kernel
theorem dX6_allWays_9 : decode cX6_allWays 9 = .ok (.iconst 0, 1) := by decide +kernel
theorem dX6_allWays_10 : decode cX6_allWays 10 = .ok (.invokevirtual 68, 3) := by decide +kernel
theorem dX6_allWays_13 : decode cX6_allWays 13 = .ok (.i2l, 1) := by decide +kernel
theorem dX6_allWays_14 : decode cX6_allWays 14 = .ok (.lreturn, 1) := by decide +kernel
theorem dX6_allWays_15 : decode cX6_allWays 15 = .ok (.lconst 1, 1) := by decide +kernel
theorem dX6_allWays_16 : decode cX6_allWays 16 = .ok (.lstore_n 2, 1) := by decide +kernel
theorem dX6_allWays_17 : decode cX6_allWays 17 = .ok (.iconst 0, 1) := by decide +kernel
theorem dX6_allWays_18 : decode cX6_allWays 18 = .ok (.istore 4, 2) := by decide +kernel
theorem dX6_allWays_20 : decode cX6_allWays 20 = .ok (.iload 4, 2) := by decide +kernel
theorem dX6_allWays_22 : decode cX6_allWays 22 = .ok (.aload_n 0, 1) := by decide +kernel
theorem dX6_allWays_23 : decode cX6_allWays 23 = .ok (.iload_n 1, 1) := by decide +kernel
theorem dX6_allWays_24 : decode cX6_allWays 24 = .ok (.invokevirtual 105, 3) := by decide +kernel
theorem dX6_allWays_27 : decode cX6_allWays 27 = .ok (.if_icmp .ge 27, 3) := by decide +kernel
theorem dX6_allWays_30 : decode cX6_allWays 30 = .ok (.lload_n 2, 1) := by decide +kernel
theorem dX6_allWays_31 : decode cX6_allWays 31 = .ok (.aload_n 0, 1) := by decide +kernel
theorem dX6_allWays_32 : decode cX6_allWays 32 = .ok (.aload_n 0, 1) := by decide +kernel
theorem dX6_allWays_33 : decode cX6_allWays 33 = .ok (.iload_n 1, 1) := by decide +kernel
theorem dX6_allWays_34 : decode cX6_allWays 34 = .ok (.iload 4, 2) := by decide +kernel
theorem dX6_allWays_36 : decode cX6_allWays 36 = .ok (.invokevirtual 112, 3) := by decide +kernel
theorem dX6_allWays_39 : decode cX6_allWays 39 = .ok (.invokevirtual 90, 3) := by decide +kernel
theorem dX6_allWays_42 : decode cX6_allWays 42 = .ok (.invokestatic 121, 3) := by decide +kernel
theorem dX6_allWays_45 : decode cX6_allWays 45 = .ok (.i2l, 1) := by decide +kernel
theorem dX6_allWays_46 : decode cX6_allWays 46 = .ok (.lmul, 1) := by decide +kernel
theorem dX6_allWays_47 : decode cX6_allWays 47 = .ok (.lstore_n 2, 1) := by decide +kernel
theorem dX6_allWays_48 : decode cX6_allWays 48 = .ok (.iinc 4 1, 3) := by decide +kernel
theorem dX6_allWays_51 : decode cX6_allWays 51 = .ok (.goto (-31), 3) := by decide +kernel
theorem dX6_allWays_54 : decode cX6_allWays 54 = .ok (.lload_n 2, 1) := by decide +kernel
theorem dX6_allWays_55 : decode cX6_allWays 55 = .ok (.lreturn, 1) := by decide +kernel
set_option maxRecDepth 20000 in
theorem ggX6_length_X6_isTale : GoodIn wsX6_length wsX6_isTale := goodIn_r _ [6, 7, 8, 9, 5, 10, 41, 42, 43, 44, 45, 46, 47, 48, 49, 50, 51, 52, 53, 54, 55, 56, 57, 58, 59, 60] (by decide +kernel) (by decide +kernel)
set_option maxRecDepth 20000 in
theorem gX6_length_X6_isTale : GoodIn wsX6_length (wsV RX6 102 RX6 yX6_isTale wsX6_isTale) := goodIn_app (goodIn_of _ (by decide +kernel)) ggX6_length_X6_isTale
set_option maxRecDepth 20000 in
theorem ggX6_length_X6_in : GoodIn wsX6_length wsX6_in := goodIn_r _ [10] (by decide +kernel) (by decide +kernel)
set_option maxRecDepth 20000 in
theorem gX6_length_X6_in : GoodIn wsX6_length (va_wsS RX6 57 yX6_in wsX6_in) := goodIn_app (goodIn_of _ (by decide +kernel)) ggX6_length_X6_in
set_option maxRecDepth 20000 in
theorem ggX6_length_X6_no : GoodIn wsX6_length wsX6_no := goodIn_r _ [14, 15, 16, 41, 42, 43, 44, 45, 46, 47, 48, 49, 50, 51, 52, 53, 54, 55, 56, 57, 58, 59, 60] (by decide +kernel) (by decide +kernel)
set_option maxRecDepth 20000 in
theorem gX6_length_X6_no : GoodIn wsX6_length (wsV RX6 68 RX6 yX6_no wsX6_no) := goodIn_app (goodIn_of _ (by decide +kernel)) ggX6_length_X6_no
set_option maxRecDepth 20000 in
theorem ggX6_length_X6_long_ : GoodIn wsX6_length wsX6_long_ := goodIn_r _ [20, 7, 41, 42, 43, 44, 45, 46, 47, 48, 49, 50, 51, 52, 53, 54, 55, 56, 57, 58, 59, 60] (by decide +kernel) (by decide +kernel)
set_option maxRecDepth 20000 in
theorem gX6_length_X6_long_ : GoodIn wsX6_length (wsV RX6 105 RX6 yX6_long_ wsX6_long_) := goodIn_app (goodIn_of _ (by decide +kernel)) ggX6_length_X6_long_
set_option maxRecDepth 20000 in
theorem ggX6_length_X6_counts : GoodIn wsX6_length wsX6_counts := goodIn_r _ [24, 1, 25, 26, 27, 28, 5, 29, 7, 30, 31, 32, 33, 34, 35, 36, 37, 38, 39, 40, 41, 42, 43, 44, 45, 46, 47, 48, 49, 50, 51, 52, 53, 54, 55, 56, 57, 58, 59, 60] (by decide +kernel) (by decide +kernel)
set_option maxRecDepth 20000 in
theorem gX6_length_X6_counts : GoodIn wsX6_length (wsV RX6 115 RX6 yX6_counts wsX6_counts) := goodIn_app (goodIn_of _ (by decide +kernel)) ggX6_length_X6_counts
theorem dX6_length_0 : decode cX6_length 0 = .ok (.aload_n 0, 1) := by decide +kernel
theorem dX6_length_1 : decode cX6_length 1 = .ok (.iload_n 1, 1) := by decide +kernel
theorem dX6_length_2 : decode cX6_length 2 = .ok (.invokevirtual 102, 3) := by decide +kernel
theorem dX6_length_5 : decode cX6_length 5 = .ok (.ifCond .eq 12, 3) := by decide +kernel
theorem dX6_length_8 : decode cX6_length 8 = .ok (.iload_n 2, 1) := by decide +kernel
theorem dX6_length_9 : decode cX6_length 9 = .ok (.iconst 0, 1) := by decide +kernel
theorem dX6_length_10 : decode cX6_length 10 = .ok (.iconst 2, 1) := by decide +kernel
theorem dX6_length_11 : decode cX6_length 11 = .ok (.invokestatic 57, 3) := by decide +kernel
theorem dX6_length_14 : decode cX6_length 14 = .ok (.ifCond .ne 9, 3) := by decide +kernel
theorem dX6_length_17 : decode cX6_length 17 = .ok (.aload_n 0, 1) := by decide +kernel
theorem dX6_length_18 : decode cX6_length 18 = .ok (.iconst 0, 1) := by decide +kernel
theorem dX6_length_19 : decode cX6_length 19 = .ok (.invokevirtual 68, 3) := by decide +kernel
theorem dX6_length_22 : decode cX6_length 22 = .ok (.ireturn, 1) := by decide +kernel
theorem dX6_length_23 : decode cX6_length 23 = .ok (.aload_n 0, 1) := by decide +kernel
theorem dX6_length_24 : decode cX6_length 24 = .ok (.iload_n 1, 1) := by decide +kernel
theorem dX6_length_25 : decode cX6_length 25 = .ok (.aload_n 0, 1) := by decide +kernel
theorem dX6_length_26 : decode cX6_length 26 = .ok (.iload_n 1, 1) := by decide +kernel
theorem dX6_length_27 : decode cX6_length 27 = .ok (.invokevirtual 105, 3) := by decide +kernel
theorem dX6_length_30 : decode cX6_length 30 = .ok (.invokevirtual 115, 3) := by decide +kernel
theorem dX6_length_33 : decode cX6_length 33 = .ok (.iconst 0, 1) := by decide +kernel
theorem dX6_length_34 : decode cX6_length 34 = .ok (.istore_n 3, 1) := by decide +kernel
theorem dX6_length_35 : decode cX6_length 35 = .ok (.iload_n 3, 1) := by decide +kernel
theorem dX6_length_36 : decode cX6_length 36 = .ok (.bipush 120, 2) := by decide +kernel
theorem dX6_length_38 : decode cX6_length 38 = .ok (.if_icmp .gt 20, 3) := by decide +kernel
theorem dX6_length_41 : decode cX6_length 41 = .ok (.aload_n 0, 1) := by decide +kernel
theorem dX6_length_42 : decode cX6_length 42 = .ok (.getfield 22, 3) := by decide +kernel
theorem dX6_length_45 : decode cX6_length 45 = .ok (.iload_n 3, 1) := by decide +kernel
theorem dX6_length_46 : decode cX6_length 46 = .ok (.laload, 1) := by decide +kernel
theorem dX6_length_47 : decode cX6_length 47 = .ok (.lconst 0, 1) := by decide +kernel
theorem dX6_length_48 : decode cX6_length 48 = .ok (.lcmp, 1) := by decide +kernel
theorem dX6_length_49 : decode cX6_length 49 = .ok (.ifCond .ne 9, 3) := by decide +kernel
theorem dX6_length_52 : decode cX6_length 52 = .ok (.iinc 3 1, 3) := by decide +kernel
theorem dX6_length_55 : decode cX6_length 55 = .ok (.goto (-20), 3) := by decide +kernel
theorem dX6_length_58 : decode cX6_length 58 = .ok (.iload_n 3, 1) := by decide +kernel
theorem dX6_length_59 : decode cX6_length 59 = .ok (.bipush 120, 2) := by decide +kernel
theorem dX6_length_61 : decode cX6_length 61 = .ok (.if_icmp .le 9, 3) := by decide +kernel
theorem dX6_length_64 : decode cX6_length 64 = .ok (.aload_n 0, 1) := by decide +kernel
theorem dX6_length_65 : decode cX6_length 65 = .ok (.iconst 3, 1) := by decide +kernel
theorem dX6_length_66 : decode cX6_length 66 = .ok (.invokevirtual 68, 3) := by decide +kernel
theorem dX6_length_69 : decode cX6_length 69 = .ok (.ireturn, 1) := by decide +kernel
theorem dX6_length_70 : decode cX6_length 70 = .ok (.bipush 120, 2) := by decide +kernel
theorem dX6_length_72 : decode cX6_length 72 = .ok (.istore 4, 2) := by decide +kernel
theorem dX6_length_74 : decode cX6_length 74 = .ok (.aload_n 0, 1) := by decide +kernel
theorem dX6_length_75 : decode cX6_length 75 = .ok (.getfield 22, 3) := by decide +kernel
theorem dX6_length_78 : decode cX6_length 78 = .ok (.iload 4, 2) := by decide +kernel
theorem dX6_length_80 : decode cX6_length 80 = .ok (.laload, 1) := by decide +kernel
theorem dX6_length_81 : decode cX6_length 81 = .ok (.lconst 0, 1) := by decide +kernel
theorem dX6_length_82 : decode cX6_length 82 = .ok (.lcmp, 1) := by decide +kernel
theorem dX6_length_83 : decode cX6_length 83 = .ok (.ifCond .ne 9, 3) := by decide +kernel
theorem dX6_length_86 : decode cX6_length 86 = .ok (.iinc 4 (-1), 3) := by decide +kernel
theorem dX6_length_89 : decode cX6_length 89 = .ok (.goto (-15), 3) := by decide +kernel
theorem dX6_length_92 : decode cX6_length 92 = .ok (.iconst 0, 1) := by decide +kernel
theorem dX6_length_93 : decode cX6_length 93 = .ok (.istore 5, 2) := by decide +kernel
theorem dX6_length_95 : decode cX6_length 95 = .ok (.iload_n 3, 1) := by decide +kernel
theorem dX6_length_96 : decode cX6_length 96 = .ok (.istore 6, 2) := by decide +kernel
theorem dX6_length_98 : decode cX6_length 98 = .ok (.iload 6, 2) := by decide +kernel
theorem dX6_length_100 : decode cX6_length 100 = .ok (.iload 4, 2) := by decide +kernel
theorem dX6_length_102 : decode cX6_length 102 = .ok (.if_icmp .gt 31, 3) := by decide +kernel
theorem dX6_length_105 : decode cX6_length 105 = .ok (.iload 5, 2) := by decide +kernel
theorem dX6_length_107 : decode cX6_length 107 = .ok (.aload_n 0, 1) := by decide +kernel
theorem dX6_length_108 : decode cX6_length 108 = .ok (.getfield 22, 3) := by decide +kernel
theorem dX6_length_111 : decode cX6_length 111 = .ok (.iload 6, 2) := by decide +kernel
theorem dX6_length_113 : decode cX6_length 113 = .ok (.laload, 1) := by decide +kernel
theorem dX6_length_114 : decode cX6_length 114 = .ok (.lconst 0, 1) := by decide +kernel
theorem dX6_length_115 : decode cX6_length 115 = .ok (.lcmp, 1) := by decide +kernel
theorem dX6_length_116 : decode cX6_length 116 = .ok (.ifCond .ne 7, 3) := by decide +kernel
theorem dX6_length_119 : decode cX6_length 119 = .ok (.iconst 1, 1) := by decide +kernel
theorem dX6_length_120 : decode cX6_length 120 = .ok (.goto 4, 3) := by decide +kernel
theorem dX6_length_123 : decode cX6_length 123 = .ok (.iconst 0, 1) := by decide +kernel
theorem dX6_length_124 : decode cX6_length 124 = .ok (.iadd, 1) := by decide +kernel
theorem dX6_length_125 : decode cX6_length 125 = .ok (.istore 5, 2) := by decide +kernel
theorem dX6_length_127 : decode cX6_length 127 = .ok (.iinc 6 1, 3) := by decide +kernel
theorem dX6_length_130 : decode cX6_length 130 = .ok (.goto (-32), 3) := by decide +kernel
theorem dX6_length_133 : decode cX6_length 133 = .ok (.iload_n 2, 1) := by decide +kernel
theorem dX6_length_134 : decode cX6_length 134 = .ok (.ifCond .ne 7, 3) := by decide +kernel
theorem dX6_length_137 : decode cX6_length 137 = .ok (.iload_n 3, 1) := by decide +kernel
theorem dX6_length_138 : decode cX6_length 138 = .ok (.goto 15, 3) := by decide +kernel
theorem dX6_length_141 : decode cX6_length 141 = .ok (.iload_n 2, 1) := by decide +kernel
theorem dX6_length_142 : decode cX6_length 142 = .ok (.iconst 1, 1) := by decide +kernel
theorem dX6_length_143 : decode cX6_length 143 = .ok (.if_icmp .ne 8, 3) := by decide +kernel
theorem dX6_length_146 : decode cX6_length 146 = .ok (.iload 4, 2) := by decide +kernel
theorem dX6_length_148 : decode cX6_length 148 = .ok (.goto 5, 3) := by decide +kernel
theorem dX6_length_151 : decode cX6_length 151 = .ok (.iload 5, 2) := by decide +kernel
theorem dX6_length_153 : decode cX6_length 153 = .ok (.ireturn, 1) := by decide +kernel
theorem dX6_worthAt_0 : decode cX6_worthAt 0 = .ok (.iload_n 2, 1) := by decide +kernel
theorem dX6_worthAt_1 : decode cX6_worthAt 1 = .ok (.ifCond .ge 8, 3) := by decide +kernel
theorem dX6_worthAt_4 : decode cX6_worthAt 4 = .ok (.ldc 124, 2) := by decide +kernel
theorem dX6_worthAt_6 : decode cX6_worthAt 6 = .ok (.goto 14, 3) := by decide +kernel
theorem dX6_worthAt_9 : decode cX6_worthAt 9 = .ok (.aload_n 0, 1) := by decide +kernel
theorem dX6_worthAt_10 : decode cX6_worthAt 10 = .ok (.getfield 29, 3) := by decide +kernel
theorem dX6_worthAt_13 : decode cX6_worthAt 13 = .ok (.bipush 121, 2) := by decide +kernel
theorem dX6_worthAt_15 : decode cX6_worthAt 15 = .ok (.iload_n 1, 1) := by decide +kernel
theorem dX6_worthAt_16 : decode cX6_worthAt 16 = .ok (.imul, 1) := by decide +kernel
theorem dX6_worthAt_17 : decode cX6_worthAt 17 = .ok (.iload_n 2, 1) := by decide +kernel
theorem dX6_worthAt_18 : decode cX6_worthAt 18 = .ok (.iadd, 1) := by decide +kernel
theorem dX6_worthAt_19 : decode cX6_worthAt 19 = .ok (.iaload, 1) := by decide +kernel
theorem dX6_worthAt_20 : decode cX6_worthAt 20 = .ok (.ireturn, 1) := by decide +kernel
set_option maxRecDepth 20000 in
theorem ggX6_weighs_X6_long_ : GoodIn wsX6_weighs wsX6_long_ := goodIn_r _ [7, 8, 32, 33, 34, 35, 36, 37, 38, 39, 40, 41, 42, 43, 44, 45, 46, 47, 48, 49, 50, 51] (by decide +kernel) (by decide +kernel)
set_option maxRecDepth 20000 in
theorem gX6_weighs_X6_long_ : GoodIn wsX6_weighs (wsV RX6 105 RX6 yX6_long_ wsX6_long_) := goodIn_app (goodIn_of _ (by decide +kernel)) ggX6_weighs_X6_long_
set_option maxRecDepth 20000 in
theorem ggX6_weighs_X6_nth : GoodIn wsX6_weighs wsX6_nth := goodIn_r _ [12, 8, 32, 33, 34, 35, 36, 37, 38, 39, 40, 41, 42, 43, 44, 45, 46, 47, 48, 49, 50, 51] (by decide +kernel) (by decide +kernel)
set_option maxRecDepth 20000 in
theorem gX6_weighs_X6_nth : GoodIn wsX6_weighs (wsV RX6 112 RX6 yX6_nth wsX6_nth) := goodIn_app (goodIn_of _ (by decide +kernel)) ggX6_weighs_X6_nth
set_option maxRecDepth 20000 in
theorem ggX6_weighs_X6_worthAt : GoodIn wsX6_weighs wsX6_worthAt := goodIn_r _ [16, 2, 1, 32, 33, 34, 35, 36, 37, 38, 39, 40, 41, 42, 43, 44, 45, 46, 47, 48, 49, 50, 51] (by decide +kernel) (by decide +kernel)
set_option maxRecDepth 20000 in
theorem gX6_weighs_X6_worthAt : GoodIn wsX6_weighs (wsV RX6 125 RX6 yX6_worthAt wsX6_worthAt) := goodIn_app (goodIn_of _ (by decide +kernel)) ggX6_weighs_X6_worthAt
set_option maxRecDepth 20000 in
theorem ggX6_weighs_X6_isLength : GoodIn wsX6_weighs wsX6_isLength := goodIn_r _ [20, 21, 22, 23, 6, 24, 8, 25, 26, 27, 32, 33, 34, 35, 36, 37, 38, 39, 40, 41, 42, 43, 44, 45, 46, 47, 48, 49, 50, 51] (by decide +kernel) (by decide +kernel)
set_option maxRecDepth 20000 in
theorem gX6_weighs_X6_isLength : GoodIn wsX6_weighs (wsV RX6 83 RX6 yX6_isLength wsX6_isLength) := goodIn_app (goodIn_of _ (by decide +kernel)) ggX6_weighs_X6_isLength
set_option maxRecDepth 20000 in
theorem ggX6_weighs_X6_valued : GoodIn wsX6_weighs wsX6_valued := goodIn_r _ [31, 21, 22, 23, 6, 24, 8, 32, 33, 34, 35, 36, 37, 38, 39, 40, 41, 42, 43, 44, 45, 46, 47, 48, 49, 50, 51] (by decide +kernel) (by decide +kernel)
set_option maxRecDepth 20000 in
theorem gX6_weighs_X6_valued : GoodIn wsX6_weighs (wsV RX6 99 RX6 yX6_valued wsX6_valued) := goodIn_app (goodIn_of _ (by decide +kernel)) ggX6_weighs_X6_valued
theorem dX6_weighs_0 : decode cX6_weighs 0 = .ok (.aload_n 0, 1) := by decide +kernel
theorem dX6_weighs_1 : decode cX6_weighs 1 = .ok (.iload_n 1, 1) := by decide +kernel
theorem dX6_weighs_2 : decode cX6_weighs 2 = .ok (.invokevirtual 105, 3) := by decide +kernel
theorem dX6_weighs_5 : decode cX6_weighs 5 = .ok (.istore_n 2, 1) := by decide +kernel
theorem dX6_weighs_6 : decode cX6_weighs 6 = .ok (.iconst 0, 1) := by decide +kernel
theorem dX6_weighs_7 : decode cX6_weighs 7 = .ok (.istore_n 3, 1) := by decide +kernel
theorem dX6_weighs_8 : decode cX6_weighs 8 = .ok (.iload_n 3, 1) := by decide +kernel
theorem dX6_weighs_9 : decode cX6_weighs 9 = .ok (.bipush 120, 2) := by decide +kernel
theorem dX6_weighs_11 : decode cX6_weighs 11 = .ok (.if_icmp .gt 30, 3) := by decide +kernel
theorem dX6_weighs_14 : decode cX6_weighs 14 = .ok (.aload_n 0, 1) := by decide +kernel
theorem dX6_weighs_15 : decode cX6_weighs 15 = .ok (.getfield 29, 3) := by decide +kernel
theorem dX6_weighs_18 : decode cX6_weighs 18 = .ok (.bipush 121, 2) := by decide +kernel
theorem dX6_weighs_20 : decode cX6_weighs 20 = .ok (.iload_n 2, 1) := by decide +kernel
theorem dX6_weighs_21 : decode cX6_weighs 21 = .ok (.imul, 1) := by decide +kernel
theorem dX6_weighs_22 : decode cX6_weighs 22 = .ok (.iload_n 3, 1) := by decide +kernel
theorem dX6_weighs_23 : decode cX6_weighs 23 = .ok (.iadd, 1) := by decide +kernel
theorem dX6_weighs_24 : decode cX6_weighs 24 = .ok (.iload_n 3, 1) := by decide +kernel
theorem dX6_weighs_25 : decode cX6_weighs 25 = .ok (.ifCond .ne 7, 3) := by decide +kernel
theorem dX6_weighs_28 : decode cX6_weighs 28 = .ok (.iconst 0, 1) := by decide +kernel
theorem dX6_weighs_29 : decode cX6_weighs 29 = .ok (.goto 5, 3) := by decide +kernel
theorem dX6_weighs_32 : decode cX6_weighs 32 = .ok (.ldc 124, 2) := by decide +kernel
theorem dX6_weighs_34 : decode cX6_weighs 34 = .ok (.iastore, 1) := by decide +kernel
theorem dX6_weighs_35 : decode cX6_weighs 35 = .ok (.iinc 3 1, 3) := by decide +kernel
theorem dX6_weighs_38 : decode cX6_weighs 38 = .ok (.goto (-30), 3) := by decide +kernel
theorem dX6_weighs_41 : decode cX6_weighs 41 = .ok (.iload_n 2, 1) := by decide +kernel
theorem dX6_weighs_42 : decode cX6_weighs 42 = .ok (.iconst 1, 1) := by decide +kernel
theorem dX6_weighs_43 : decode cX6_weighs 43 = .ok (.isub, 1) := by decide +kernel
theorem dX6_weighs_44 : decode cX6_weighs 44 = .ok (.istore_n 3, 1) := by decide +kernel
theorem dX6_weighs_45 : decode cX6_weighs 45 = .ok (.iload_n 3, 1) := by decide +kernel
theorem dX6_weighs_46 : decode cX6_weighs 46 = .ok (.ifCond .lt 152, 3) := by decide +kernel
theorem dX6_weighs_49 : decode cX6_weighs 49 = .ok (.aload_n 0, 1) := by decide +kernel
theorem dX6_weighs_50 : decode cX6_weighs 50 = .ok (.iload_n 1, 1) := by decide +kernel
theorem dX6_weighs_51 : decode cX6_weighs 51 = .ok (.iload_n 3, 1) := by decide +kernel
theorem dX6_weighs_52 : decode cX6_weighs 52 = .ok (.invokevirtual 112, 3) := by decide +kernel
theorem dX6_weighs_55 : decode cX6_weighs 55 = .ok (.istore 4, 2) := by decide +kernel
theorem dX6_weighs_57 : decode cX6_weighs 57 = .ok (.iconst 0, 1) := by decide +kernel
theorem dX6_weighs_58 : decode cX6_weighs 58 = .ok (.istore 5, 2) := by decide +kernel
theorem dX6_weighs_60 : decode cX6_weighs 60 = .ok (.iload 5, 2) := by decide +kernel
theorem dX6_weighs_62 : decode cX6_weighs 62 = .ok (.bipush 120, 2) := by decide +kernel
theorem dX6_weighs_64 : decode cX6_weighs 64 = .ok (.if_icmp .gt 128, 3) := by decide +kernel
theorem dX6_weighs_67 : decode cX6_weighs 67 = .ok (.ldc 124, 2) := by decide +kernel
theorem dX6_weighs_69 : decode cX6_weighs 69 = .ok (.istore 6, 2) := by decide +kernel
theorem dX6_weighs_71 : decode cX6_weighs 71 = .ok (.iconst 0, 1) := by decide +kernel
theorem dX6_weighs_72 : decode cX6_weighs 72 = .ok (.istore 7, 2) := by decide +kernel
theorem dX6_weighs_74 : decode cX6_weighs 74 = .ok (.iload 7, 2) := by decide +kernel
theorem dX6_weighs_76 : decode cX6_weighs 76 = .ok (.iload 5, 2) := by decide +kernel
theorem dX6_weighs_78 : decode cX6_weighs 78 = .ok (.if_icmp .gt 94, 3) := by decide +kernel
theorem dX6_weighs_81 : decode cX6_weighs 81 = .ok (.iload 7, 2) := by decide +kernel
theorem dX6_weighs_83 : decode cX6_weighs 83 = .ok (.bipush 25, 2) := by decide +kernel
theorem dX6_weighs_85 : decode cX6_weighs 85 = .ok (.if_icmp .ge 87, 3) := by decide +kernel
theorem dX6_weighs_88 : decode cX6_weighs 88 = .ok (.aload_n 0, 1) := by decide +kernel
theorem dX6_weighs_89 : decode cX6_weighs 89 = .ok (.iload_n 3, 1) := by decide +kernel
theorem dX6_weighs_90 : decode cX6_weighs 90 = .ok (.iconst 1, 1) := by decide +kernel
theorem dX6_weighs_91 : decode cX6_weighs 91 = .ok (.iadd, 1) := by decide +kernel
theorem dX6_weighs_92 : decode cX6_weighs 92 = .ok (.iload 5, 2) := by decide +kernel
theorem dX6_weighs_94 : decode cX6_weighs 94 = .ok (.iload 7, 2) := by decide +kernel
theorem dX6_weighs_96 : decode cX6_weighs 96 = .ok (.isub, 1) := by decide +kernel
theorem dX6_weighs_97 : decode cX6_weighs 97 = .ok (.invokevirtual 125, 3) := by decide +kernel
theorem dX6_weighs_100 : decode cX6_weighs 100 = .ok (.istore 8, 2) := by decide +kernel
theorem dX6_weighs_102 : decode cX6_weighs 102 = .ok (.aload_n 0, 1) := by decide +kernel
theorem dX6_weighs_103 : decode cX6_weighs 103 = .ok (.iload 4, 2) := by decide +kernel
theorem dX6_weighs_105 : decode cX6_weighs 105 = .ok (.iload 7, 2) := by decide +kernel
theorem dX6_weighs_107 : decode cX6_weighs 107 = .ok (.invokevirtual 83, 3) := by decide +kernel
theorem dX6_weighs_110 : decode cX6_weighs 110 = .ok (.ifCond .eq 30, 3) := by decide +kernel
theorem dX6_weighs_113 : decode cX6_weighs 113 = .ok (.iload 8, 2) := by decide +kernel
theorem dX6_weighs_115 : decode cX6_weighs 115 = .ok (.ldc 124, 2) := by decide +kernel
theorem dX6_weighs_117 : decode cX6_weighs 117 = .ok (.if_icmp .le 23, 3) := by decide +kernel
theorem dX6_weighs_120 : decode cX6_weighs 120 = .ok (.aload_n 0, 1) := by decide +kernel
theorem dX6_weighs_121 : decode cX6_weighs 121 = .ok (.iload 4, 2) := by decide +kernel
theorem dX6_weighs_123 : decode cX6_weighs 123 = .ok (.iload 7, 2) := by decide +kernel
theorem dX6_weighs_125 : decode cX6_weighs 125 = .ok (.invokevirtual 99, 3) := by decide +kernel
theorem dX6_weighs_128 : decode cX6_weighs 128 = .ok (.iload 8, 2) := by decide +kernel
theorem dX6_weighs_130 : decode cX6_weighs 130 = .ok (.iadd, 1) := by decide +kernel
theorem dX6_weighs_131 : decode cX6_weighs 131 = .ok (.iload 6, 2) := by decide +kernel
theorem dX6_weighs_133 : decode cX6_weighs 133 = .ok (.if_icmp .le 7, 3) := by decide +kernel
theorem dX6_weighs_136 : decode cX6_weighs 136 = .ok (.iconst 1, 1) := by decide +kernel
theorem dX6_weighs_137 : decode cX6_weighs 137 = .ok (.goto 4, 3) := by decide +kernel
theorem dX6_weighs_140 : decode cX6_weighs 140 = .ok (.iconst 0, 1) := by decide +kernel
theorem dX6_weighs_141 : decode cX6_weighs 141 = .ok (.istore 9, 2) := by decide +kernel
theorem dX6_weighs_143 : decode cX6_weighs 143 = .ok (.iload 9, 2) := by decide +kernel
theorem dX6_weighs_145 : decode cX6_weighs 145 = .ok (.ifCond .eq 17, 3) := by decide +kernel
theorem dX6_weighs_148 : decode cX6_weighs 148 = .ok (.aload_n 0, 1) := by decide +kernel
theorem dX6_weighs_149 : decode cX6_weighs 149 = .ok (.iload 4, 2) := by decide +kernel
theorem dX6_weighs_151 : decode cX6_weighs 151 = .ok (.iload 7, 2) := by decide +kernel
theorem dX6_weighs_153 : decode cX6_weighs 153 = .ok (.invokevirtual 99, 3) := by decide +kernel
theorem dX6_weighs_156 : decode cX6_weighs 156 = .ok (.iload 8, 2) := by decide +kernel
theorem dX6_weighs_158 : decode cX6_weighs 158 = .ok (.iadd, 1) := by decide +kernel
theorem dX6_weighs_159 : decode cX6_weighs 159 = .ok (.goto 5, 3) := by decide +kernel
theorem dX6_weighs_162 : decode cX6_weighs 162 = .ok (.iload 6, 2) := by decide +kernel
theorem dX6_weighs_164 : decode cX6_weighs 164 = .ok (.istore 6, 2) := by decide +kernel
theorem dX6_weighs_166 : decode cX6_weighs 166 = .ok (.iinc 7 1, 3) := by decide +kernel
theorem dX6_weighs_169 : decode cX6_weighs 169 = .ok (.goto (-95), 3) := by decide +kernel
theorem dX6_weighs_172 : decode cX6_weighs 172 = .ok (.aload_n 0, 1) := by decide +kernel
theorem dX6_weighs_173 : decode cX6_weighs 173 = .ok (.getfield 29, 3) := by decide +kernel
theorem dX6_weighs_176 : decode cX6_weighs 176 = .ok (.bipush 121, 2) := by decide +kernel
theorem dX6_weighs_178 : decode cX6_weighs 178 = .ok (.iload_n 3, 1) := by decide +kernel
theorem dX6_weighs_179 : decode cX6_weighs 179 = .ok (.imul, 1) := by decide +kernel
theorem dX6_weighs_180 : decode cX6_weighs 180 = .ok (.iload 5, 2) := by decide +kernel
theorem dX6_weighs_182 : decode cX6_weighs 182 = .ok (.iadd, 1) := by decide +kernel
theorem dX6_weighs_183 : decode cX6_weighs 183 = .ok (.iload 6, 2) := by decide +kernel
theorem dX6_weighs_185 : decode cX6_weighs 185 = .ok (.iastore, 1) := by decide +kernel
theorem dX6_weighs_186 : decode cX6_weighs 186 = .ok (.iinc 5 1, 3) := by decide +kernel
theorem dX6_weighs_189 : decode cX6_weighs 189 = .ok (.goto (-129), 3) := by decide +kernel
theorem dX6_weighs_192 : decode cX6_weighs 192 = .ok (.iinc 3 (-1), 3) := by decide +kernel
theorem dX6_weighs_195 : decode cX6_weighs 195 = .ok (.goto (-150), 3) := by decide +kernel
theorem dX6_weighs_198 : decode cX6_weighs 198 = .ok (.return_, 1) := by decide +kernel
set_option maxRecDepth 20000 in
theorem ggX6_says_X6_weighs : GoodIn wsX6_says wsX6_weighs := goodIn_r _ [7, 8, 1, 9, 10, 11, 6, 12, 13, 14, 15, 16, 17, 18, 19, 20, 21, 22, 23, 24, 25, 26, 27, 28, 29, 30, 31, 32, 33, 34, 35, 36, 37, 38, 39, 40, 41, 42, 43, 44, 45, 46, 47, 48, 49, 50, 51, 52, 53, 54, 55, 56] (by decide +kernel) (by decide +kernel)
set_option maxRecDepth 20000 in
theorem gX6_says_X6_weighs : GoodIn wsX6_says (wsV RX6 128 RX6 yX6_weighs wsX6_weighs) := goodIn_app (goodIn_of _ (by decide +kernel)) ggX6_says_X6_weighs
set_option maxRecDepth 20000 in
theorem ggX6_says_X6_worthAt : GoodIn wsX6_says wsX6_worthAt := goodIn_r _ [21, 1, 8, 37, 38, 39, 40, 41, 42, 43, 44, 45, 46, 47, 48, 49, 50, 51, 52, 53, 54, 55, 56] (by decide +kernel) (by decide +kernel)
set_option maxRecDepth 20000 in
theorem gX6_says_X6_worthAt : GoodIn wsX6_says (wsV RX6 125 RX6 yX6_worthAt wsX6_worthAt) := goodIn_app (goodIn_of _ (by decide +kernel)) ggX6_says_X6_worthAt
set_option maxRecDepth 20000 in
theorem ggX6_says_X6_long_ : GoodIn wsX6_says wsX6_long_ := goodIn_r _ [12, 13, 37, 38, 39, 40, 41, 42, 43, 44, 45, 46, 47, 48, 49, 50, 51, 52, 53, 54, 55, 56] (by decide +kernel) (by decide +kernel)
set_option maxRecDepth 20000 in
theorem gX6_says_X6_long_ : GoodIn wsX6_says (wsV RX6 105 RX6 yX6_long_ wsX6_long_) := goodIn_app (goodIn_of _ (by decide +kernel)) ggX6_says_X6_long_
set_option maxRecDepth 20000 in
theorem ggX6_says_X6_nth : GoodIn wsX6_says wsX6_nth := goodIn_r _ [17, 13, 37, 38, 39, 40, 41, 42, 43, 44, 45, 46, 47, 48, 49, 50, 51, 52, 53, 54, 55, 56] (by decide +kernel) (by decide +kernel)
set_option maxRecDepth 20000 in
theorem gX6_says_X6_nth : GoodIn wsX6_says (wsV RX6 112 RX6 yX6_nth wsX6_nth) := goodIn_app (goodIn_of _ (by decide +kernel)) ggX6_says_X6_nth
set_option maxRecDepth 20000 in
theorem ggX6_says_X6_isLength : GoodIn wsX6_says wsX6_isLength := goodIn_r _ [25, 26, 27, 28, 6, 29, 13, 30, 31, 32, 37, 38, 39, 40, 41, 42, 43, 44, 45, 46, 47, 48, 49, 50, 51, 52, 53, 54, 55, 56] (by decide +kernel) (by decide +kernel)
set_option maxRecDepth 20000 in
theorem gX6_says_X6_isLength : GoodIn wsX6_says (wsV RX6 83 RX6 yX6_isLength wsX6_isLength) := goodIn_app (goodIn_of _ (by decide +kernel)) ggX6_says_X6_isLength
set_option maxRecDepth 20000 in
theorem ggX6_says_X6_valued : GoodIn wsX6_says wsX6_valued := goodIn_r _ [36, 26, 27, 28, 6, 29, 13, 37, 38, 39, 40, 41, 42, 43, 44, 45, 46, 47, 48, 49, 50, 51, 52, 53, 54, 55, 56] (by decide +kernel) (by decide +kernel)
set_option maxRecDepth 20000 in
theorem gX6_says_X6_valued : GoodIn wsX6_says (wsV RX6 99 RX6 yX6_valued wsX6_valued) := goodIn_app (goodIn_of _ (by decide +kernel)) ggX6_says_X6_valued
theorem dX6_says_0 : decode cX6_says 0 = .ok (.aload_n 0, 1) := by decide +kernel
theorem dX6_says_1 : decode cX6_says 1 = .ok (.iload_n 1, 1) := by decide +kernel
theorem dX6_says_2 : decode cX6_says 2 = .ok (.invokevirtual 128, 3) := by decide +kernel
theorem dX6_says_5 : decode cX6_says 5 = .ok (.aload_n 0, 1) := by decide +kernel
theorem dX6_says_6 : decode cX6_says 6 = .ok (.iconst 0, 1) := by decide +kernel
theorem dX6_says_7 : decode cX6_says 7 = .ok (.iload_n 2, 1) := by decide +kernel
theorem dX6_says_8 : decode cX6_says 8 = .ok (.invokevirtual 125, 3) := by decide +kernel
theorem dX6_says_11 : decode cX6_says 11 = .ok (.ldc 124, 2) := by decide +kernel
theorem dX6_says_13 : decode cX6_says 13 = .ok (.if_icmp .ne 5, 3) := by decide +kernel
theorem dX6_says_16 : decode cX6_says 16 = .ok (.iconst 0, 1) := by decide +kernel
theorem dX6_says_17 : decode cX6_says 17 = .ok (.ireturn, 1) := by decide +kernel
theorem dX6_says_18 : decode cX6_says 18 = .ok (.iload_n 2, 1) := by decide +kernel
theorem dX6_says_19 : decode cX6_says 19 = .ok (.istore_n 3, 1) := by decide +kernel
theorem dX6_says_20 : decode cX6_says 20 = .ok (.iconst 0, 1) := by decide +kernel
theorem dX6_says_21 : decode cX6_says 21 = .ok (.istore 4, 2) := by decide +kernel
theorem dX6_says_23 : decode cX6_says 23 = .ok (.iload 4, 2) := by decide +kernel
theorem dX6_says_25 : decode cX6_says 25 = .ok (.aload_n 0, 1) := by decide +kernel
theorem dX6_says_26 : decode cX6_says 26 = .ok (.iload_n 1, 1) := by decide +kernel
theorem dX6_says_27 : decode cX6_says 27 = .ok (.invokevirtual 105, 3) := by decide +kernel
theorem dX6_says_30 : decode cX6_says 30 = .ok (.if_icmp .ge 100, 3) := by decide +kernel
theorem dX6_says_33 : decode cX6_says 33 = .ok (.aload_n 0, 1) := by decide +kernel
theorem dX6_says_34 : decode cX6_says 34 = .ok (.iload_n 1, 1) := by decide +kernel
theorem dX6_says_35 : decode cX6_says 35 = .ok (.iload 4, 2) := by decide +kernel
theorem dX6_says_37 : decode cX6_says 37 = .ok (.invokevirtual 112, 3) := by decide +kernel
theorem dX6_says_40 : decode cX6_says 40 = .ok (.istore 5, 2) := by decide +kernel
theorem dX6_says_42 : decode cX6_says 42 = .ok (.iconst 0, 1) := by decide +kernel
theorem dX6_says_43 : decode cX6_says 43 = .ok (.istore 6, 2) := by decide +kernel
theorem dX6_says_45 : decode cX6_says 45 = .ok (.aload_n 0, 1) := by decide +kernel
theorem dX6_says_46 : decode cX6_says 46 = .ok (.iload 5, 2) := by decide +kernel
theorem dX6_says_48 : decode cX6_says 48 = .ok (.iload 6, 2) := by decide +kernel
theorem dX6_says_50 : decode cX6_says 50 = .ok (.invokevirtual 83, 3) := by decide +kernel
theorem dX6_says_53 : decode cX6_says 53 = .ok (.ifCond .eq 51, 3) := by decide +kernel
theorem dX6_says_56 : decode cX6_says 56 = .ok (.aload_n 0, 1) := by decide +kernel
theorem dX6_says_57 : decode cX6_says 57 = .ok (.iload 4, 2) := by decide +kernel
theorem dX6_says_59 : decode cX6_says 59 = .ok (.iconst 1, 1) := by decide +kernel
theorem dX6_says_60 : decode cX6_says 60 = .ok (.iadd, 1) := by decide +kernel
theorem dX6_says_61 : decode cX6_says 61 = .ok (.iload_n 3, 1) := by decide +kernel
theorem dX6_says_62 : decode cX6_says 62 = .ok (.iload 6, 2) := by decide +kernel
theorem dX6_says_64 : decode cX6_says 64 = .ok (.isub, 1) := by decide +kernel
theorem dX6_says_65 : decode cX6_says 65 = .ok (.invokevirtual 125, 3) := by decide +kernel
theorem dX6_says_68 : decode cX6_says 68 = .ok (.ldc 124, 2) := by decide +kernel
theorem dX6_says_70 : decode cX6_says 70 = .ok (.if_icmp .le 34, 3) := by decide +kernel
theorem dX6_says_73 : decode cX6_says 73 = .ok (.aload_n 0, 1) := by decide +kernel
theorem dX6_says_74 : decode cX6_says 74 = .ok (.iload 5, 2) := by decide +kernel
theorem dX6_says_76 : decode cX6_says 76 = .ok (.iload 6, 2) := by decide +kernel
theorem dX6_says_78 : decode cX6_says 78 = .ok (.invokevirtual 99, 3) := by decide +kernel
theorem dX6_says_81 : decode cX6_says 81 = .ok (.aload_n 0, 1) := by decide +kernel
theorem dX6_says_82 : decode cX6_says 82 = .ok (.iload 4, 2) := by decide +kernel
theorem dX6_says_84 : decode cX6_says 84 = .ok (.iconst 1, 1) := by decide +kernel
theorem dX6_says_85 : decode cX6_says 85 = .ok (.iadd, 1) := by decide +kernel
theorem dX6_says_86 : decode cX6_says 86 = .ok (.iload_n 3, 1) := by decide +kernel
theorem dX6_says_87 : decode cX6_says 87 = .ok (.iload 6, 2) := by decide +kernel
theorem dX6_says_89 : decode cX6_says 89 = .ok (.isub, 1) := by decide +kernel
theorem dX6_says_90 : decode cX6_says 90 = .ok (.invokevirtual 125, 3) := by decide +kernel
theorem dX6_says_93 : decode cX6_says 93 = .ok (.iadd, 1) := by decide +kernel
theorem dX6_says_94 : decode cX6_says 94 = .ok (.aload_n 0, 1) := by decide +kernel
theorem dX6_says_95 : decode cX6_says 95 = .ok (.iload 4, 2) := by decide +kernel
theorem dX6_says_97 : decode cX6_says 97 = .ok (.iload_n 3, 1) := by decide +kernel
theorem dX6_says_98 : decode cX6_says 98 = .ok (.invokevirtual 125, 3) := by decide +kernel
theorem dX6_says_101 : decode cX6_says 101 = .ok (.if_icmp .eq 9, 3) := by decide +kernel
theorem dX6_says_104 : decode cX6_says 104 = .ok (.iinc 6 1, 3) := by decide +kernel
theorem dX6_says_107 : decode cX6_says 107 = .ok (.goto (-62), 3) := by decide +kernel
theorem dX6_says_110 : decode cX6_says 110 = .ok (.aload_n 0, 1) := by decide +kernel
theorem dX6_says_111 : decode cX6_says 111 = .ok (.getfield 32, 3) := by decide +kernel
theorem dX6_says_114 : decode cX6_says 114 = .ok (.iload 4, 2) := by decide +kernel
theorem dX6_says_116 : decode cX6_says 116 = .ok (.iload 6, 2) := by decide +kernel
theorem dX6_says_118 : decode cX6_says 118 = .ok (.iastore, 1) := by decide +kernel
theorem dX6_says_119 : decode cX6_says 119 = .ok (.iload_n 3, 1) := by decide +kernel
theorem dX6_says_120 : decode cX6_says 120 = .ok (.iload 6, 2) := by decide +kernel
theorem dX6_says_122 : decode cX6_says 122 = .ok (.isub, 1) := by decide +kernel
theorem dX6_says_123 : decode cX6_says 123 = .ok (.istore_n 3, 1) := by decide +kernel
theorem dX6_says_124 : decode cX6_says 124 = .ok (.iinc 4 1, 3) := by decide +kernel
theorem dX6_says_127 : decode cX6_says 127 = .ok (.goto (-104), 3) := by decide +kernel
theorem dX6_says_130 : decode cX6_says 130 = .ok (.iconst 1, 1) := by decide +kernel
theorem dX6_says_131 : decode cX6_says 131 = .ok (.ireturn, 1) := by decide +kernel
set_option maxRecDepth 20000 in
theorem ggX6_best_X6_isTale : GoodIn wsX6_best wsX6_isTale := goodIn_r _ [6, 7, 8, 9, 5, 10, 57, 58, 59, 60, 61, 62, 63, 64, 65, 66, 67, 68, 69, 70, 71, 72, 73, 74, 75, 76] (by decide +kernel) (by decide +kernel)
set_option maxRecDepth 20000 in
theorem gX6_best_X6_isTale : GoodIn wsX6_best (wsV RX6 102 RX6 yX6_isTale wsX6_isTale) := goodIn_app (goodIn_of _ (by decide +kernel)) ggX6_best_X6_isTale
set_option maxRecDepth 20000 in
theorem ggX6_best_X6_isWords : GoodIn wsX6_best wsX6_isWords := goodIn_r _ [13, 8, 9, 5, 10] (by decide +kernel) (by decide +kernel)
set_option maxRecDepth 20000 in
theorem gX6_best_X6_isWords : GoodIn wsX6_best (va_wsS RX6 118 yX6_isWords wsX6_isWords) := goodIn_app (goodIn_of _ (by decide +kernel)) ggX6_best_X6_isWords
set_option maxRecDepth 20000 in
theorem ggX6_best_X6_in : GoodIn wsX6_best wsX6_in := goodIn_r _ [10] (by decide +kernel) (by decide +kernel)
set_option maxRecDepth 20000 in
theorem gX6_best_X6_in : GoodIn wsX6_best (va_wsS RX6 57 yX6_in wsX6_in) := goodIn_app (goodIn_of _ (by decide +kernel)) ggX6_best_X6_in
set_option maxRecDepth 20000 in
theorem ggX6_best_X6_no : GoodIn wsX6_best wsX6_no := goodIn_r _ [17, 18, 19, 57, 58, 59, 60, 61, 62, 63, 64, 65, 66, 67, 68, 69, 70, 71, 72, 73, 74, 75, 76] (by decide +kernel) (by decide +kernel)
set_option maxRecDepth 20000 in
theorem gX6_best_X6_no : GoodIn wsX6_best (wsV RX6 68 RX6 yX6_no wsX6_no) := goodIn_app (goodIn_of _ (by decide +kernel)) ggX6_best_X6_no
