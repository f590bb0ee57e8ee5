theorem dX0_stepToNumber_6 : decode cX0_stepToNumber 6 = .ok (.iload_n 2, 1) := by decide +kernel
theorem dX0_stepToNumber_7 : decode cX0_stepToNumber 7 = .ok (.invokevirtual 87, 3) := by decide +kernel
theorem dX0_stepToNumber_10 : decode cX0_stepToNumber 10 = .ok (.ireturn, 1) := by decide +kernel
set_option maxRecDepth 20000 in
theorem ggX0_isNumber_X0_byteAt : GoodIn wsX0_isNumber wsX0_byteAt := goodIn_r _ [13, 14, 15, 16, 20, 21, 22, 23, 24, 25, 26, 27] (by decide +kernel) (by decide +kernel)
set_option maxRecDepth 20000 in
theorem gX0_isNumber_X0_byteAt : GoodIn wsX0_isNumber (wsV RX0 101 RX0 yX0_byteAt wsX0_byteAt) := goodIn_app (goodIn_of _ (by decide +kernel)) ggX0_isNumber_X0_byteAt
set_option maxRecDepth 20000 in
theorem ggX0_isNumber_X5_isIn : GoodIn wsX0_isNumber wsX5_isIn := goodIn_r _ [19] (by decide +kernel) (by decide +kernel)
set_option maxRecDepth 20000 in
theorem gX0_isNumber_X5_isIn_n109 : GoodIn wsX0_isNumber (wsX5_isIn) := ggX0_isNumber_X5_isIn
theorem dX0_isNumber_0 : decode cX0_isNumber 0 = .ok (.aload_n 0, 1) := by decide +kernel
theorem dX0_isNumber_1 : decode cX0_isNumber 1 = .ok (.iconst 0, 1) := by decide +kernel
theorem dX0_isNumber_2 : decode cX0_isNumber 2 = .ok (.putfield 21, 3) := by decide +kernel
theorem dX0_isNumber_5 : decode cX0_isNumber 5 = .ok (.aload_n 0, 1) := by decide +kernel
theorem dX0_isNumber_6 : decode cX0_isNumber 6 = .ok (.getfield 9, 3) := by decide +kernel
theorem dX0_isNumber_9 : decode cX0_isNumber 9 = .ok (.istore_n 3, 1) := by decide +kernel
theorem dX0_isNumber_10 : decode cX0_isNumber 10 = .ok (.iload_n 3, 1) := by decide +kernel
theorem dX0_isNumber_11 : decode cX0_isNumber 11 = .ok (.aload_n 0, 1) := by decide +kernel
theorem dX0_isNumber_12 : decode cX0_isNumber 12 = .ok (.getfield 15, 3) := by decide +kernel
theorem dX0_isNumber_15 : decode cX0_isNumber 15 = .ok (.if_icmp .ge 43, 3) := by decide +kernel
theorem dX0_isNumber_18 : decode cX0_isNumber 18 = .ok (.aload_n 0, 1) := by decide +kernel
theorem dX0_isNumber_19 : decode cX0_isNumber 19 = .ok (.getfield 18, 3) := by decide +kernel
theorem dX0_isNumber_22 : decode cX0_isNumber 22 = .ok (.iconst 2, 1) := by decide +kernel
theorem dX0_isNumber_23 : decode cX0_isNumber 23 = .ok (.if_icmp .ne 35, 3) := by decide +kernel
theorem dX0_isNumber_26 : decode cX0_isNumber 26 = .ok (.aload_n 0, 1) := by decide +kernel
theorem dX0_isNumber_27 : decode cX0_isNumber 27 = .ok (.sipush 1000, 3) := by decide +kernel
theorem dX0_isNumber_30 : decode cX0_isNumber 30 = .ok (.aload_n 0, 1) := by decide +kernel
theorem dX0_isNumber_31 : decode cX0_isNumber 31 = .ok (.getfield 21, 3) := by decide +kernel
theorem dX0_isNumber_34 : decode cX0_isNumber 34 = .ok (.bipush 10, 2) := by decide +kernel
theorem dX0_isNumber_36 : decode cX0_isNumber 36 = .ok (.imul, 1) := by decide +kernel
theorem dX0_isNumber_37 : decode cX0_isNumber 37 = .ok (.aload_n 0, 1) := by decide +kernel
theorem dX0_isNumber_38 : decode cX0_isNumber 38 = .ok (.iload_n 3, 1) := by decide +kernel
theorem dX0_isNumber_39 : decode cX0_isNumber 39 = .ok (.invokevirtual 101, 3) := by decide +kernel
theorem dX0_isNumber_42 : decode cX0_isNumber 42 = .ok (.iadd, 1) := by decide +kernel
theorem dX0_isNumber_43 : decode cX0_isNumber 43 = .ok (.bipush 48, 2) := by decide +kernel
theorem dX0_isNumber_45 : decode cX0_isNumber 45 = .ok (.isub, 1) := by decide +kernel
theorem dX0_isNumber_46 : decode cX0_isNumber 46 = .ok (.invokestatic 104, 3) := by decide +kernel
theorem dX0_isNumber_49 : decode cX0_isNumber 49 = .ok (.putfield 21, 3) := by decide +kernel
theorem dX0_isNumber_52 : decode cX0_isNumber 52 = .ok (.iinc 3 1, 3) := by decide +kernel
theorem dX0_isNumber_55 : decode cX0_isNumber 55 = .ok (.goto (-45), 3) := by decide +kernel
theorem dX0_isNumber_58 : decode cX0_isNumber 58 = .ok (.aload_n 0, 1) := by decide +kernel
theorem dX0_isNumber_59 : decode cX0_isNumber 59 = .ok (.getfield 18, 3) := by decide +kernel
theorem dX0_isNumber_62 : decode cX0_isNumber 62 = .ok (.iconst 2, 1) := by decide +kernel
theorem dX0_isNumber_63 : decode cX0_isNumber 63 = .ok (.if_icmp .ne 19, 3) := by decide +kernel
theorem dX0_isNumber_66 : decode cX0_isNumber 66 = .ok (.aload_n 0, 1) := by decide +kernel
theorem dX0_isNumber_67 : decode cX0_isNumber 67 = .ok (.getfield 21, 3) := by decide +kernel
theorem dX0_isNumber_70 : decode cX0_isNumber 70 = .ok (.iload_n 1, 1) := by decide +kernel
theorem dX0_isNumber_71 : decode cX0_isNumber 71 = .ok (.iload_n 2, 1) := by decide +kernel
theorem dX0_isNumber_72 : decode cX0_isNumber 72 = .ok (.invokestatic 109, 3) := by decide +kernel
theorem dX0_isNumber_75 : decode cX0_isNumber 75 = .ok (.ifCond .eq 7, 3) := by decide +kernel
theorem dX0_isNumber_78 : decode cX0_isNumber 78 = .ok (.iconst 1, 1) := by decide +kernel
theorem dX0_isNumber_79 : decode cX0_isNumber 79 = .ok (.goto 4, 3) := by decide +kernel
theorem dX0_isNumber_82 : decode cX0_isNumber 82 = .ok (.iconst 0, 1) := by decide +kernel
theorem dX0_isNumber_83 : decode cX0_isNumber 83 = .ok (.ireturn, 1) := by decide +kernel
set_option maxRecDepth 20000 in
theorem ggX0_isText_J0_length_8abf5 : GoodIn wsX0_isText wsJ0_length_8abf5 := goodIn_r _ [8, 9, 10, 11, 12, 7, 13, 14, 15] (by decide +kernel) (by decide +kernel)
set_option maxRecDepth 20000 in
theorem gX0_isText_J0_length_8abf5 : GoodIn wsX0_isText (wsV RX0 113 RJ0 yJ0_length_8abf5 wsJ0_length_8abf5) := goodIn_app (goodIn_of _ (by decide +kernel)) ggX0_isText_J0_length_8abf5
set_option maxRecDepth 20000 in
theorem ggX0_isText_X0_byteAt : GoodIn wsX0_isText wsX0_byteAt := goodIn_r _ [20, 21, 22, 23, 61, 62, 63, 64, 65, 66, 67, 68] (by decide +kernel) (by decide +kernel)
set_option maxRecDepth 20000 in
theorem gX0_isText_X0_byteAt : GoodIn wsX0_isText (wsV RX0 101 RX0 yX0_byteAt wsX0_byteAt) := goodIn_app (goodIn_of _ (by decide +kernel)) ggX0_isText_X0_byteAt
set_option maxRecDepth 20000 in
theorem ggX0_isText_J0_charAt_5068e : GoodIn wsX0_isText wsJ0_charAt_5068e := goodIn_r _ [27, 9, 28, 29, 30, 7, 31, 14, 15, 32, 33, 34, 35, 36, 37, 38, 39, 40, 41, 42, 43, 44, 45, 46, 47, 48, 49, 50, 51, 52, 53, 54, 55, 56, 57, 58, 59, 60] (by decide +kernel) (by decide +kernel)
set_option maxRecDepth 20000 in
theorem gX0_isText_J0_charAt_5068e : GoodIn wsX0_isText (wsV RX0 118 RJ0 yJ0_charAt_5068e wsJ0_charAt_5068e) := goodIn_app (goodIn_of _ (by decide +kernel)) ggX0_isText_J0_charAt_5068e
theorem dX0_isText_0 : decode cX0_isText 0 = .ok (.aload_n 0, 1) := by decide +kernel
theorem dX0_isText_1 : decode cX0_isText 1 = .ok (.getfield 18, 3) := by decide +kernel
theorem dX0_isText_4 : decode cX0_isText 4 = .ok (.iconst 1, 1) := by decide +kernel
theorem dX0_isText_5 : decode cX0_isText 5 = .ok (.if_icmp .ne 19, 3) := by decide +kernel
theorem dX0_isText_8 : decode cX0_isText 8 = .ok (.aload_n 0, 1) := by decide +kernel
theorem dX0_isText_9 : decode cX0_isText 9 = .ok (.getfield 15, 3) := by decide +kernel
theorem dX0_isText_12 : decode cX0_isText 12 = .ok (.aload_n 0, 1) := by decide +kernel
theorem dX0_isText_13 : decode cX0_isText 13 = .ok (.getfield 9, 3) := by decide +kernel
theorem dX0_isText_16 : decode cX0_isText 16 = .ok (.isub, 1) := by decide +kernel
theorem dX0_isText_17 : decode cX0_isText 17 = .ok (.aload_n 1, 1) := by decide +kernel
theorem dX0_isText_18 : decode cX0_isText 18 = .ok (.invokevirtual 113, 3) := by decide +kernel
theorem dX0_isText_21 : decode cX0_isText 21 = .ok (.if_icmp .eq 5, 3) := by decide +kernel
theorem dX0_isText_24 : decode cX0_isText 24 = .ok (.iconst 0, 1) := by decide +kernel
theorem dX0_isText_25 : decode cX0_isText 25 = .ok (.ireturn, 1) := by decide +kernel
theorem dX0_isText_26 : decode cX0_isText 26 = .ok (.iconst 0, 1) := by decide +kernel
theorem dX0_isText_27 : decode cX0_isText 27 = .ok (.istore_n 2, 1) := by decide +kernel
theorem dX0_isText_28 : decode cX0_isText 28 = .ok (.iload_n 2, 1) := by decide +kernel
theorem dX0_isText_29 : decode cX0_isText 29 = .ok (.aload_n 1, 1) := by decide +kernel
theorem dX0_isText_30 : decode cX0_isText 30 = .ok (.invokevirtual 113, 3) := by decide +kernel
theorem dX0_isText_33 : decode cX0_isText 33 = .ok (.if_icmp .ge 29, 3) := by decide +kernel
theorem dX0_isText_36 : decode cX0_isText 36 = .ok (.aload_n 0, 1) := by decide +kernel
theorem dX0_isText_37 : decode cX0_isText 37 = .ok (.aload_n 0, 1) := by decide +kernel
theorem dX0_isText_38 : decode cX0_isText 38 = .ok (.getfield 9, 3) := by decide +kernel
theorem dX0_isText_41 : decode cX0_isText 41 = .ok (.iload_n 2, 1) := by decide +kernel
theorem dX0_isText_42 : decode cX0_isText 42 = .ok (.iadd, 1) := by decide +kernel
theorem dX0_isText_43 : decode cX0_isText 43 = .ok (.invokevirtual 101, 3) := by decide +kernel
theorem dX0_isText_46 : decode cX0_isText 46 = .ok (.aload_n 1, 1) := by decide +kernel
theorem dX0_isText_47 : decode cX0_isText 47 = .ok (.iload_n 2, 1) := by decide +kernel
theorem dX0_isText_48 : decode cX0_isText 48 = .ok (.invokevirtual 118, 3) := by decide +kernel
theorem dX0_isText_51 : decode cX0_isText 51 = .ok (.if_icmp .eq 5, 3) := by decide +kernel
theorem dX0_isText_54 : decode cX0_isText 54 = .ok (.iconst 0, 1) := by decide +kernel
theorem dX0_isText_55 : decode cX0_isText 55 = .ok (.ireturn, 1) := by decide +kernel
theorem dX0_isText_56 : decode cX0_isText 56 = .ok (.iinc 2 1, 3) := by decide +kernel
theorem dX0_isText_59 : decode cX0_isText 59 = .ok (.goto (-31), 3) := by decide +kernel
theorem dX0_isText_62 : decode cX0_isText 62 = .ok (.iconst 1, 1) := by decide +kernel
theorem dX0_isText_63 : decode cX0_isText 63 = .ok (.ireturn, 1) := by decide +kernel
theorem dX0_kindText_0 : decode cX0_kindText 0 = .ok (.iload_n 0, 1) := by decide +kernel
theorem dX0_kindText_1 : decode cX0_kindText 1 = .ok (.tableswitch 50 0 4 #[35, 38, 41, 44, 47], 35) := by decide +kernel
theorem dX0_kindText_36 : decode cX0_kindText 36 = .ok (.ldc 122, 2) := by decide +kernel
theorem dX0_kindText_38 : decode cX0_kindText 38 = .ok (.areturn, 1) := by decide +kernel
theorem dX0_kindText_39 : decode cX0_kindText 39 = .ok (.ldc 124, 2) := by decide +kernel
theorem dX0_kindText_41 : decode cX0_kindText 41 = .ok (.areturn, 1) := by decide +kernel
theorem dX0_kindText_42 : decode cX0_kindText 42 = .ok (.ldc 126, 2) := by decide +kernel
theorem dX0_kindText_44 : decode cX0_kindText 44 = .ok (.areturn, 1) := by decide +kernel
theorem dX0_kindText_45 : decode cX0_kindText 45 = .ok (.ldc 128, 2) := by decide +kernel
theorem dX0_kindText_47 : decode cX0_kindText 47 = .ok (.areturn, 1) := by decide +kernel
theorem dX0_kindText_48 : decode cX0_kindText 48 = .ok (.ldc 130, 2) := by decide +kernel
theorem dX0_kindText_50 : decode cX0_kindText 50 = .ok (.areturn, 1) := by decide +kernel
theorem dX0_kindText_51 : decode cX0_kindText 51 = .ok (.ldc 132, 2) := by decide +kernel
theorem dX0_kindText_53 : decode cX0_kindText 53 = .ok (.areturn, 1) := by decide +kernel
set_option maxRecDepth 20000 in
theorem ggX0_step_X0_byteAt : GoodIn wsX0_step wsX0_byteAt := goodIn_r _ [10, 3, 4, 11, 15, 16, 17, 18, 19, 20, 21, 22] (by decide +kernel) (by decide +kernel)
set_option maxRecDepth 20000 in
theorem gX0_step_X0_byteAt : GoodIn wsX0_step (wsV RX0 101 RX0 yX0_byteAt wsX0_byteAt) := goodIn_app (goodIn_of _ (by decide +kernel)) ggX0_step_X0_byteAt
set_option maxRecDepth 20000 in
theorem ggX0_step_X0_sortOf : GoodIn wsX0_step wsX0_sortOf := goodIn_r _ [14] (by decide +kernel) (by decide +kernel)
set_option maxRecDepth 20000 in
theorem gX0_step_X0_sortOf : GoodIn wsX0_step (va_wsS RX0 139 yX0_sortOf wsX0_sortOf) := goodIn_app (goodIn_of _ (by decide +kernel)) ggX0_step_X0_sortOf
theorem dX0_step_0 : decode cX0_step 0 = .ok (.aload_n 0, 1) := by decide +kernel
theorem dX0_step_1 : decode cX0_step 1 = .ok (.aload_n 0, 1) := by decide +kernel
theorem dX0_step_2 : decode cX0_step 2 = .ok (.getfield 15, 3) := by decide +kernel
theorem dX0_step_5 : decode cX0_step 5 = .ok (.putfield 9, 3) := by decide +kernel
theorem dX0_step_8 : decode cX0_step 8 = .ok (.aload_n 0, 1) := by decide +kernel
theorem dX0_step_9 : decode cX0_step 9 = .ok (.getfield 9, 3) := by decide +kernel
theorem dX0_step_12 : decode cX0_step 12 = .ok (.aload_n 0, 1) := by decide +kernel
theorem dX0_step_13 : decode cX0_step 13 = .ok (.getfield 24, 3) := by decide +kernel
theorem dX0_step_16 : decode cX0_step 16 = .ok (.getfield 134, 3) := by decide +kernel
theorem dX0_step_19 : decode cX0_step 19 = .ok (.if_icmp .ge 29, 3) := by decide +kernel
theorem dX0_step_22 : decode cX0_step 22 = .ok (.aload_n 0, 1) := by decide +kernel
theorem dX0_step_23 : decode cX0_step 23 = .ok (.aload_n 0, 1) := by decide +kernel
theorem dX0_step_24 : decode cX0_step 24 = .ok (.getfield 9, 3) := by decide +kernel
theorem dX0_step_27 : decode cX0_step 27 = .ok (.invokevirtual 101, 3) := by decide +kernel
theorem dX0_step_30 : decode cX0_step 30 = .ok (.bipush 32, 2) := by decide +kernel
theorem dX0_step_32 : decode cX0_step 32 = .ok (.if_icmp .ne 16, 3) := by decide +kernel
theorem dX0_step_35 : decode cX0_step 35 = .ok (.aload_n 0, 1) := by decide +kernel
theorem dX0_step_36 : decode cX0_step 36 = .ok (.dup, 1) := by decide +kernel
theorem dX0_step_37 : decode cX0_step 37 = .ok (.getfield 9, 3) := by decide +kernel
theorem dX0_step_40 : decode cX0_step 40 = .ok (.iconst 1, 1) := by decide +kernel
theorem dX0_step_41 : decode cX0_step 41 = .ok (.iadd, 1) := by decide +kernel
theorem dX0_step_42 : decode cX0_step 42 = .ok (.putfield 9, 3) := by decide +kernel
theorem dX0_step_45 : decode cX0_step 45 = .ok (.goto (-37), 3) := by decide +kernel
theorem dX0_step_48 : decode cX0_step 48 = .ok (.aload_n 0, 1) := by decide +kernel
theorem dX0_step_49 : decode cX0_step 49 = .ok (.aload_n 0, 1) := by decide +kernel
theorem dX0_step_50 : decode cX0_step 50 = .ok (.aload_n 0, 1) := by decide +kernel
theorem dX0_step_51 : decode cX0_step 51 = .ok (.getfield 9, 3) := by decide +kernel
theorem dX0_step_54 : decode cX0_step 54 = .ok (.invokevirtual 101, 3) := by decide +kernel
theorem dX0_step_57 : decode cX0_step 57 = .ok (.invokestatic 139, 3) := by decide +kernel
theorem dX0_step_60 : decode cX0_step 60 = .ok (.putfield 18, 3) := by decide +kernel
theorem dX0_step_63 : decode cX0_step 63 = .ok (.aload_n 0, 1) := by decide +kernel
theorem dX0_step_64 : decode cX0_step 64 = .ok (.aload_n 0, 1) := by decide +kernel
theorem dX0_step_65 : decode cX0_step 65 = .ok (.getfield 18, 3) := by decide +kernel
theorem dX0_step_68 : decode cX0_step 68 = .ok (.ifCond .ne 10, 3) := by decide +kernel
theorem dX0_step_71 : decode cX0_step 71 = .ok (.aload_n 0, 1) := by decide +kernel
theorem dX0_step_72 : decode cX0_step 72 = .ok (.getfield 9, 3) := by decide +kernel
theorem dX0_step_75 : decode cX0_step 75 = .ok (.goto 9, 3) := by decide +kernel
theorem dX0_step_78 : decode cX0_step 78 = .ok (.aload_n 0, 1) := by decide +kernel
theorem dX0_step_79 : decode cX0_step 79 = .ok (.getfield 9, 3) := by decide +kernel
theorem dX0_step_82 : decode cX0_step 82 = .ok (.iconst 1, 1) := by decide +kernel
theorem dX0_step_83 : decode cX0_step 83 = .ok (.iadd, 1) := by decide +kernel
theorem dX0_step_84 : decode cX0_step 84 = .ok (.putfield 15, 3) := by decide +kernel
theorem dX0_step_87 : decode cX0_step 87 = .ok (.aload_n 0, 1) := by decide +kernel
theorem dX0_step_88 : decode cX0_step 88 = .ok (.getfield 18, 3) := by decide +kernel
theorem dX0_step_91 : decode cX0_step 91 = .ok (.iconst 1, 1) := by decide +kernel
theorem dX0_step_92 : decode cX0_step 92 = .ok (.if_icmp .eq 11, 3) := by decide +kernel
theorem dX0_step_95 : decode cX0_step 95 = .ok (.aload_n 0, 1) := by decide +kernel
theorem dX0_step_96 : decode cX0_step 96 = .ok (.getfield 18, 3) := by decide +kernel
theorem dX0_step_99 : decode cX0_step 99 = .ok (.iconst 2, 1) := by decide +kernel
theorem dX0_step_100 : decode cX0_step 100 = .ok (.if_icmp .ne 48, 3) := by decide +kernel
theorem dX0_step_103 : decode cX0_step 103 = .ok (.aload_n 0, 1) := by decide +kernel
theorem dX0_step_104 : decode cX0_step 104 = .ok (.getfield 15, 3) := by decide +kernel
theorem dX0_step_107 : decode cX0_step 107 = .ok (.aload_n 0, 1) := by decide +kernel
theorem dX0_step_108 : decode cX0_step 108 = .ok (.getfield 24, 3) := by decide +kernel
theorem dX0_step_111 : decode cX0_step 111 = .ok (.getfield 134, 3) := by decide +kernel
theorem dX0_step_114 : decode cX0_step 114 = .ok (.if_icmp .ge 34, 3) := by decide +kernel
theorem dX0_step_117 : decode cX0_step 117 = .ok (.aload_n 0, 1) := by decide +kernel
theorem dX0_step_118 : decode cX0_step 118 = .ok (.aload_n 0, 1) := by decide +kernel
theorem dX0_step_119 : decode cX0_step 119 = .ok (.getfield 15, 3) := by decide +kernel
theorem dX0_step_122 : decode cX0_step 122 = .ok (.invokevirtual 101, 3) := by decide +kernel
theorem dX0_step_125 : decode cX0_step 125 = .ok (.invokestatic 139, 3) := by decide +kernel
theorem dX0_step_128 : decode cX0_step 128 = .ok (.aload_n 0, 1) := by decide +kernel
theorem dX0_step_129 : decode cX0_step 129 = .ok (.getfield 18, 3) := by decide +kernel
theorem dX0_step_132 : decode cX0_step 132 = .ok (.if_icmp .ne 16, 3) := by decide +kernel
theorem dX0_step_135 : decode cX0_step 135 = .ok (.aload_n 0, 1) := by decide +kernel
theorem dX0_step_136 : decode cX0_step 136 = .ok (.dup, 1) := by decide +kernel
theorem dX0_step_137 : decode cX0_step 137 = .ok (.getfield 15, 3) := by decide +kernel
theorem dX0_step_140 : decode cX0_step 140 = .ok (.iconst 1, 1) := by decide +kernel
theorem dX0_step_141 : decode cX0_step 141 = .ok (.iadd, 1) := by decide +kernel
theorem dX0_step_142 : decode cX0_step 142 = .ok (.putfield 15, 3) := by decide +kernel
theorem dX0_step_145 : decode cX0_step 145 = .ok (.goto (-42), 3) := by decide +kernel
theorem dX0_step_148 : decode cX0_step 148 = .ok (.return_, 1) := by decide +kernel
theorem dX0_byteAt_0 : decode cX0_byteAt 0 = .ok (.iload_n 1, 1) := by decide +kernel
theorem dX0_byteAt_1 : decode cX0_byteAt 1 = .ok (.ifCond .lt 26, 3) := by decide +kernel
theorem dX0_byteAt_4 : decode cX0_byteAt 4 = .ok (.iload_n 1, 1) := by decide +kernel
theorem dX0_byteAt_5 : decode cX0_byteAt 5 = .ok (.aload_n 0, 1) := by decide +kernel
theorem dX0_byteAt_6 : decode cX0_byteAt 6 = .ok (.getfield 24, 3) := by decide +kernel
theorem dX0_byteAt_9 : decode cX0_byteAt 9 = .ok (.getfield 134, 3) := by decide +kernel
theorem dX0_byteAt_12 : decode cX0_byteAt 12 = .ok (.if_icmp .ge 15, 3) := by decide +kernel
theorem dX0_byteAt_15 : decode cX0_byteAt 15 = .ok (.aload_n 0, 1) := by decide +kernel
theorem dX0_byteAt_16 : decode cX0_byteAt 16 = .ok (.getfield 24, 3) := by decide +kernel
theorem dX0_byteAt_19 : decode cX0_byteAt 19 = .ok (.getfield 142, 3) := by decide +kernel
theorem dX0_byteAt_22 : decode cX0_byteAt 22 = .ok (.iload_n 1, 1) := by decide +kernel
theorem dX0_byteAt_23 : decode cX0_byteAt 23 = .ok (.iaload, 1) := by decide +kernel
theorem dX0_byteAt_24 : decode cX0_byteAt 24 = .ok (.goto 4, 3) := by decide +kernel
theorem dX0_byteAt_27 : decode cX0_byteAt 27 = .ok (.iconst (-1), 1) := by decide +kernel
theorem dX0_byteAt_28 : decode cX0_byteAt 28 = .ok (.ireturn, 1) := by decide +kernel
theorem dX0_sortOf_0 : decode cX0_sortOf 0 = .ok (.iload_n 0, 1) := by decide +kernel
theorem dX0_sortOf_1 : decode cX0_sortOf 1 = .ok (.ifCond .ge 5, 3) := by decide +kernel
theorem dX0_sortOf_4 : decode cX0_sortOf 4 = .ok (.iconst 0, 1) := by decide +kernel
theorem dX0_sortOf_5 : decode cX0_sortOf 5 = .ok (.ireturn, 1) := by decide +kernel
theorem dX0_sortOf_6 : decode cX0_sortOf 6 = .ok (.iload_n 0, 1) := by decide +kernel
theorem dX0_sortOf_7 : decode cX0_sortOf 7 = .ok (.bipush 97, 2) := by decide +kernel
theorem dX0_sortOf_9 : decode cX0_sortOf 9 = .ok (.if_icmp .lt 11, 3) := by decide +kernel
theorem dX0_sortOf_12 : decode cX0_sortOf 12 = .ok (.iload_n 0, 1) := by decide +kernel
theorem dX0_sortOf_13 : decode cX0_sortOf 13 = .ok (.bipush 122, 2) := by decide +kernel
theorem dX0_sortOf_15 : decode cX0_sortOf 15 = .ok (.if_icmp .gt 5, 3) := by decide +kernel
theorem dX0_sortOf_18 : decode cX0_sortOf 18 = .ok (.iconst 1, 1) := by decide +kernel
theorem dX0_sortOf_19 : decode cX0_sortOf 19 = .ok (.ireturn, 1) := by decide +kernel
theorem dX0_sortOf_20 : decode cX0_sortOf 20 = .ok (.iload_n 0, 1) := by decide +kernel
theorem dX0_sortOf_21 : decode cX0_sortOf 21 = .ok (.bipush 48, 2) := by decide +kernel
theorem dX0_sortOf_23 : decode cX0_sortOf 23 = .ok (.if_icmp .lt 11, 3) := by decide +kernel
theorem dX0_sortOf_26 : decode cX0_sortOf 26 = .ok (.iload_n 0, 1) := by decide +kernel
theorem dX0_sortOf_27 : decode cX0_sortOf 27 = .ok (.bipush 57, 2) := by decide +kernel
theorem dX0_sortOf_29 : decode cX0_sortOf 29 = .ok (.if_icmp .gt 5, 3) := by decide +kernel
theorem dX0_sortOf_32 : decode cX0_sortOf 32 = .ok (.iconst 2, 1) := by decide +kernel
theorem dX0_sortOf_33 : decode cX0_sortOf 33 = .ok (.ireturn, 1) := by decide +kernel
theorem dX0_sortOf_34 : decode cX0_sortOf 34 = .ok (.iload_n 0, 1) := by decide +kernel
theorem dX0_sortOf_35 : decode cX0_sortOf 35 = .ok (.bipush 59, 2) := by decide +kernel
theorem dX0_sortOf_37 : decode cX0_sortOf 37 = .ok (.if_icmp .ne 7, 3) := by decide +kernel
theorem dX0_sortOf_40 : decode cX0_sortOf 40 = .ok (.iconst 3, 1) := by decide +kernel
theorem dX0_sortOf_41 : decode cX0_sortOf 41 = .ok (.goto 4, 3) := by decide +kernel
theorem dX0_sortOf_44 : decode cX0_sortOf 44 = .ok (.iconst 4, 1) := by decide +kernel
theorem dX0_sortOf_45 : decode cX0_sortOf 45 = .ok (.ireturn, 1) := by decide +kernel
theorem dX1_init_0 : decode cX1_init 0 = .ok (.aload_n 0, 1) := by decide +kernel
theorem dX1_init_1 : decode cX1_init 1 = .ok (.invokespecial 3, 3) := by decide +kernel
theorem dX1_init_4 : decode cX1_init 4 = .ok (.aload_n 0, 1) := by decide +kernel
theorem dX1_init_5 : decode cX1_init 5 = .ok (.bipush 121, 2) := by decide +kernel
theorem dX1_init_7 : decode cX1_init 7 = .ok (.newarray .long, 2) := by decide +kernel
theorem dX1_init_9 : decode cX1_init 9 = .ok (.putfield 9, 3) := by decide +kernel
theorem dX1_init_12 : decode cX1_init 12 = .ok (.aload_n 0, 1) := by decide +kernel
theorem dX1_init_13 : decode cX1_init 13 = .ok (.sipush 1331, 3) := by decide +kernel
theorem dX1_init_16 : decode cX1_init 16 = .ok (.newarray .int, 2) := by decide +kernel
theorem dX1_init_18 : decode cX1_init 18 = .ok (.putfield 15, 3) := by decide +kernel
theorem dX1_init_21 : decode cX1_init 21 = .ok (.aload_n 0, 1) := by decide +kernel
theorem dX1_init_22 : decode cX1_init 22 = .ok (.bipush 10, 2) := by decide +kernel
theorem dX1_init_24 : decode cX1_init 24 = .ok (.newarray .int, 2) := by decide +kernel
theorem dX1_init_26 : decode cX1_init 26 = .ok (.putfield 19, 3) := by decide +kernel
theorem dX1_init_29 : decode cX1_init 29 = .ok (.aload_n 0, 1) := by decide +kernel
theorem dX1_init_30 : decode cX1_init 30 = .ok (.bipush 11, 2) := by decide +kernel
theorem dX1_init_32 : decode cX1_init 32 = .ok (.newarray .long, 2) := by decide +kernel
theorem dX1_init_34 : decode cX1_init 34 = .ok (.putfield 22, 3) := by decide +kernel
theorem dX1_init_37 : decode cX1_init 37 = .ok (.aload_n 0, 1) := by decide +kernel
theorem dX1_init_38 : decode cX1_init 38 = .ok (.bipush 11, 2) := by decide +kernel
theorem dX1_init_40 : decode cX1_init 40 = .ok (.newarray .long, 2) := by decide +kernel
theorem dX1_init_42 : decode cX1_init 42 = .ok (.putfield 25, 3) := by decide +kernel
theorem dX1_init_45 : decode cX1_init 45 = .ok (.aload_n 0, 1) := by decide +kernel
theorem dX1_init_46 : decode cX1_init 46 = .ok (.iconst 0, 1) := by decide +kernel
theorem dX1_init_47 : decode cX1_init 47 = .ok (.putfield 28, 3) := by decide +kernel
theorem dX1_init_50 : decode cX1_init 50 = .ok (.aload_n 0, 1) := by decide +kernel
theorem dX1_init_51 : decode cX1_init 51 = .ok (.aload_n 1, 1) := by decide +kernel
theorem dX1_init_52 : decode cX1_init 52 = .ok (.putfield 32, 3) := by decide +kernel
theorem dX1_init_55 : decode cX1_init 55 = .ok (.return_, 1) := by decide +kernel
set_option maxRecDepth 20000 in
theorem ggX1_waysIn_X3_toldAt : GoodIn wsX1_waysIn wsX3_toldAt := goodIn_r _ [8, 9, 33, 34, 35, 36, 37, 38, 39, 40, 41, 42, 43] (by decide +kernel) (by decide +kernel)
set_option maxRecDepth 20000 in
theorem gX1_waysIn_X3_toldAt : GoodIn wsX1_waysIn (wsV RX1 41 RX3 yX3_toldAt wsX3_toldAt) := goodIn_app (goodIn_of _ (by decide +kernel)) ggX1_waysIn_X3_toldAt
set_option maxRecDepth 20000 in
theorem ggX1_waysIn_X3_lengthsOf : GoodIn wsX1_waysIn wsX3_lengthsOf := goodIn_r _ [13, 14, 15, 16, 17, 18, 19, 7, 20, 33, 34, 35, 36, 37, 38, 39, 40, 41, 42, 43] (by decide +kernel) (by decide +kernel)
set_option maxRecDepth 20000 in
theorem gX1_waysIn_X3_lengthsOf : GoodIn wsX1_waysIn (wsV RX1 45 RX3 yX3_lengthsOf wsX3_lengthsOf) := goodIn_app (goodIn_of _ (by decide +kernel)) ggX1_waysIn_X3_lengthsOf
set_option maxRecDepth 20000 in
theorem ggX1_waysIn_X1_tallyPart : GoodIn wsX1_waysIn wsX1_tallyPart := goodIn_r _ [25, 1, 26, 27, 28, 29, 30, 31, 32] (by decide +kernel) (by decide +kernel)
set_option maxRecDepth 20000 in
theorem gX1_waysIn_X1_tallyPart : GoodIn wsX1_waysIn (wsV RX1 49 RX1 yX1_tallyPart wsX1_tallyPart) := goodIn_app (goodIn_of _ (by decide +kernel)) ggX1_waysIn_X1_tallyPart
theorem dX1_waysIn_0 : decode cX1_waysIn 0 = .ok (.iconst 0, 1) := by decide +kernel
theorem dX1_waysIn_1 : decode cX1_waysIn 1 = .ok (.istore_n 3, 1) := by decide +kernel
theorem dX1_waysIn_2 : decode cX1_waysIn 2 = .ok (.iload_n 3, 1) := by decide +kernel
theorem dX1_waysIn_3 : decode cX1_waysIn 3 = .ok (.iload_n 2, 1) := by decide +kernel
theorem dX1_waysIn_4 : decode cX1_waysIn 4 = .ok (.if_icmp .gt 24, 3) := by decide +kernel
theorem dX1_waysIn_7 : decode cX1_waysIn 7 = .ok (.aload_n 0, 1) := by decide +kernel
theorem dX1_waysIn_8 : decode cX1_waysIn 8 = .ok (.getfield 9, 3) := by decide +kernel
theorem dX1_waysIn_11 : decode cX1_waysIn 11 = .ok (.iload_n 3, 1) := by decide +kernel
theorem dX1_waysIn_12 : decode cX1_waysIn 12 = .ok (.iload_n 3, 1) := by decide +kernel
theorem dX1_waysIn_13 : decode cX1_waysIn 13 = .ok (.ifCond .ne 7, 3) := by decide +kernel
theorem dX1_waysIn_16 : decode cX1_waysIn 16 = .ok (.lconst 1, 1) := by decide +kernel
theorem dX1_waysIn_17 : decode cX1_waysIn 17 = .ok (.goto 4, 3) := by decide +kernel
theorem dX1_waysIn_20 : decode cX1_waysIn 20 = .ok (.lconst 0, 1) := by decide +kernel
theorem dX1_waysIn_21 : decode cX1_waysIn 21 = .ok (.lastore, 1) := by decide +kernel
theorem dX1_waysIn_22 : decode cX1_waysIn 22 = .ok (.iinc 3 1, 3) := by decide +kernel
theorem dX1_waysIn_25 : decode cX1_waysIn 25 = .ok (.goto (-23), 3) := by decide +kernel
theorem dX1_waysIn_28 : decode cX1_waysIn 28 = .ok (.iconst 0, 1) := by decide +kernel
theorem dX1_waysIn_29 : decode cX1_waysIn 29 = .ok (.istore_n 3, 1) := by decide +kernel
theorem dX1_waysIn_30 : decode cX1_waysIn 30 = .ok (.iload_n 3, 1) := by decide +kernel
theorem dX1_waysIn_31 : decode cX1_waysIn 31 = .ok (.aload_n 0, 1) := by decide +kernel
theorem dX1_waysIn_32 : decode cX1_waysIn 32 = .ok (.getfield 32, 3) := by decide +kernel
theorem dX1_waysIn_35 : decode cX1_waysIn 35 = .ok (.getfield 36, 3) := by decide +kernel
theorem dX1_waysIn_38 : decode cX1_waysIn 38 = .ok (.iload_n 1, 1) := by decide +kernel
theorem dX1_waysIn_39 : decode cX1_waysIn 39 = .ok (.iaload, 1) := by decide +kernel
theorem dX1_waysIn_40 : decode cX1_waysIn 40 = .ok (.if_icmp .ge 30, 3) := by decide +kernel
theorem dX1_waysIn_43 : decode cX1_waysIn 43 = .ok (.aload_n 0, 1) := by decide +kernel
theorem dX1_waysIn_44 : decode cX1_waysIn 44 = .ok (.aload_n 0, 1) := by decide +kernel
theorem dX1_waysIn_45 : decode cX1_waysIn 45 = .ok (.getfield 32, 3) := by decide +kernel
theorem dX1_waysIn_48 : decode cX1_waysIn 48 = .ok (.aload_n 0, 1) := by decide +kernel
theorem dX1_waysIn_49 : decode cX1_waysIn 49 = .ok (.getfield 32, 3) := by decide +kernel
theorem dX1_waysIn_52 : decode cX1_waysIn 52 = .ok (.iload_n 1, 1) := by decide +kernel
theorem dX1_waysIn_53 : decode cX1_waysIn 53 = .ok (.iload_n 3, 1) := by decide +kernel
theorem dX1_waysIn_54 : decode cX1_waysIn 54 = .ok (.invokevirtual 41, 3) := by decide +kernel
theorem dX1_waysIn_57 : decode cX1_waysIn 57 = .ok (.invokevirtual 45, 3) := by decide +kernel
theorem dX1_waysIn_60 : decode cX1_waysIn 60 = .ok (.iload_n 2, 1) := by decide +kernel
theorem dX1_waysIn_61 : decode cX1_waysIn 61 = .ok (.invokevirtual 49, 3) := by decide +kernel
theorem dX1_waysIn_64 : decode cX1_waysIn 64 = .ok (.iinc 3 1, 3) := by decide +kernel
theorem dX1_waysIn_67 : decode cX1_waysIn 67 = .ok (.goto (-37), 3) := by decide +kernel
theorem dX1_waysIn_70 : decode cX1_waysIn 70 = .ok (.aload_n 0, 1) := by decide +kernel
theorem dX1_waysIn_71 : decode cX1_waysIn 71 = .ok (.getfield 9, 3) := by decide +kernel
theorem dX1_waysIn_74 : decode cX1_waysIn 74 = .ok (.iload_n 2, 1) := by decide +kernel
theorem dX1_waysIn_75 : decode cX1_waysIn 75 = .ok (.laload, 1) := by decide +kernel
theorem dX1_waysIn_76 : decode cX1_waysIn 76 = .ok (.lreturn, 1) := by decide +kernel
theorem dX1_tallyPart_0 : decode cX1_tallyPart 0 = .ok (.iload_n 2, 1) := by decide +kernel
theorem dX1_tallyPart_1 : decode cX1_tallyPart 1 = .ok (.istore_n 3, 1) := by decide +kernel
theorem dX1_tallyPart_2 : decode cX1_tallyPart 2 = .ok (.iload_n 3, 1) := by decide +kernel
theorem dX1_tallyPart_3 : decode cX1_tallyPart 3 = .ok (.ifCond .lt 66, 3) := by decide +kernel
theorem dX1_tallyPart_6 : decode cX1_tallyPart 6 = .ok (.lconst 0, 1) := by decide +kernel
theorem dX1_tallyPart_7 : decode cX1_tallyPart 7 = .ok (.lstore 4, 2) := by decide +kernel
theorem dX1_tallyPart_9 : decode cX1_tallyPart 9 = .ok (.iconst 0, 1) := by decide +kernel
theorem dX1_tallyPart_10 : decode cX1_tallyPart 10 = .ok (.istore 6, 2) := by decide +kernel
theorem dX1_tallyPart_12 : decode cX1_tallyPart 12 = .ok (.iload 6, 2) := by decide +kernel
theorem dX1_tallyPart_14 : decode cX1_tallyPart 14 = .ok (.iload_n 3, 1) := by decide +kernel
theorem dX1_tallyPart_15 : decode cX1_tallyPart 15 = .ok (.if_icmp .gt 40, 3) := by decide +kernel
theorem dX1_tallyPart_18 : decode cX1_tallyPart 18 = .ok (.iload 6, 2) := by decide +kernel
theorem dX1_tallyPart_20 : decode cX1_tallyPart 20 = .ok (.bipush 24, 2) := by decide +kernel
theorem dX1_tallyPart_22 : decode cX1_tallyPart 22 = .ok (.if_icmp .gt 33, 3) := by decide +kernel
theorem dX1_tallyPart_25 : decode cX1_tallyPart 25 = .ok (.iload_n 1, 1) := by decide +kernel
theorem dX1_tallyPart_26 : decode cX1_tallyPart 26 = .ok (.iload 6, 2) := by decide +kernel
theorem dX1_tallyPart_28 : decode cX1_tallyPart 28 = .ok (.ishr, 1) := by decide +kernel
theorem dX1_tallyPart_29 : decode cX1_tallyPart 29 = .ok (.iconst 1, 1) := by decide +kernel
theorem dX1_tallyPart_30 : decode cX1_tallyPart 30 = .ok (.iand, 1) := by decide +kernel
theorem dX1_tallyPart_31 : decode cX1_tallyPart 31 = .ok (.iconst 1, 1) := by decide +kernel
theorem dX1_tallyPart_32 : decode cX1_tallyPart 32 = .ok (.if_icmp .ne 17, 3) := by decide +kernel
theorem dX1_tallyPart_35 : decode cX1_tallyPart 35 = .ok (.lload 4, 2) := by decide +kernel
theorem dX1_tallyPart_37 : decode cX1_tallyPart 37 = .ok (.aload_n 0, 1) := by decide +kernel
theorem dX1_tallyPart_38 : decode cX1_tallyPart 38 = .ok (.getfield 9, 3) := by decide +kernel
theorem dX1_tallyPart_41 : decode cX1_tallyPart 41 = .ok (.iload_n 3, 1) := by decide +kernel
theorem dX1_tallyPart_42 : decode cX1_tallyPart 42 = .ok (.iload 6, 2) := by decide +kernel
theorem dX1_tallyPart_44 : decode cX1_tallyPart 44 = .ok (.isub, 1) := by decide +kernel
theorem dX1_tallyPart_45 : decode cX1_tallyPart 45 = .ok (.laload, 1) := by decide +kernel
theorem dX1_tallyPart_46 : decode cX1_tallyPart 46 = .ok (.ladd, 1) := by decide +kernel
theorem dX1_tallyPart_47 : decode cX1_tallyPart 47 = .ok (.lstore 4, 2) := by decide +kernel
theorem dX1_tallyPart_49 : decode cX1_tallyPart 49 = .ok (.iinc 6 1, 3) := by decide +kernel
theorem dX1_tallyPart_52 : decode cX1_tallyPart 52 = .ok (.goto (-40), 3) := by decide +kernel
theorem dX1_tallyPart_55 : decode cX1_tallyPart 55 = .ok (.aload_n 0, 1) := by decide +kernel
theorem dX1_tallyPart_56 : decode cX1_tallyPart 56 = .ok (.getfield 9, 3) := by decide +kernel
theorem dX1_tallyPart_59 : decode cX1_tallyPart 59 = .ok (.iload_n 3, 1) := by decide +kernel
theorem dX1_tallyPart_60 : decode cX1_tallyPart 60 = .ok (.lload 4, 2) := by decide +kernel
theorem dX1_tallyPart_62 : decode cX1_tallyPart 62 = .ok (.lastore, 1) := by decide +kernel
theorem dX1_tallyPart_63 : decode cX1_tallyPart 63 = .ok (.iinc 3 (-1), 3) := by decide +kernel
theorem dX1_tallyPart_66 : decode cX1_tallyPart 66 = .ok (.goto (-64), 3) := by decide +kernel
theorem dX1_tallyPart_69 : decode cX1_tallyPart 69 = .ok (.return_, 1) := by decide +kernel
set_option maxRecDepth 20000 in
theorem ggX1_waysInAll_X3_toldAt : GoodIn wsX1_waysInAll wsX3_toldAt := goodIn_r _ [7, 8, 34, 35, 36, 37, 38, 39, 40, 41, 42, 43, 44] (by decide +kernel) (by decide +kernel)
set_option maxRecDepth 20000 in
theorem gX1_waysInAll_X3_toldAt : GoodIn wsX1_waysInAll (wsV RX1 41 RX3 yX3_toldAt wsX3_toldAt) := goodIn_app (goodIn_of _ (by decide +kernel)) ggX1_waysInAll_X3_toldAt
set_option maxRecDepth 20000 in
theorem ggX1_waysInAll_X3_lengthsOf : GoodIn wsX1_waysInAll wsX3_lengthsOf := goodIn_r _ [12, 13, 14, 15, 16, 17, 18, 6, 19, 34, 35, 36, 37, 38, 39, 40, 41, 42, 43, 44] (by decide +kernel) (by decide +kernel)
set_option maxRecDepth 20000 in
theorem gX1_waysInAll_X3_lengthsOf : GoodIn wsX1_waysInAll (wsV RX1 45 RX3 yX3_lengthsOf wsX3_lengthsOf) := goodIn_app (goodIn_of _ (by decide +kernel)) ggX1_waysInAll_X3_lengthsOf
set_option maxRecDepth 20000 in
theorem ggX1_waysInAll_J6_bitCount_0f7a4 : GoodIn wsX1_waysInAll wsJ6_bitCount_0f7a4 := goodIn_r _ [23, 24, 25, 26] (by decide +kernel) (by decide +kernel)
set_option maxRecDepth 20000 in
theorem gX1_waysInAll_J6_bitCount_0f7a4 : GoodIn wsX1_waysInAll (va_wsS RX1 53 yJ6_bitCount_0f7a4 wsJ6_bitCount_0f7a4) := goodIn_app (goodIn_of _ (by decide +kernel)) ggX1_waysInAll_J6_bitCount_0f7a4
theorem dX1_waysInAll_0 : decode cX1_waysInAll 0 = .ok (.lconst 1, 1) := by decide +kernel
theorem dX1_waysInAll_1 : decode cX1_waysInAll 1 = .ok (.lstore_n 2, 1) := by decide +kernel
theorem dX1_waysInAll_2 : decode cX1_waysInAll 2 = .ok (.iconst 0, 1) := by decide +kernel
theorem dX1_waysInAll_3 : decode cX1_waysInAll 3 = .ok (.istore 4, 2) := by decide +kernel
theorem dX1_waysInAll_5 : decode cX1_waysInAll 5 = .ok (.iload 4, 2) := by decide +kernel
theorem dX1_waysInAll_7 : decode cX1_waysInAll 7 = .ok (.aload_n 0, 1) := by decide +kernel
theorem dX1_waysInAll_8 : decode cX1_waysInAll 8 = .ok (.getfield 32, 3) := by decide +kernel
theorem dX1_waysInAll_11 : decode cX1_waysInAll 11 = .ok (.getfield 36, 3) := by decide +kernel
theorem dX1_waysInAll_14 : decode cX1_waysInAll 14 = .ok (.iload_n 1, 1) := by decide +kernel
theorem dX1_waysInAll_15 : decode cX1_waysInAll 15 = .ok (.iaload, 1) := by decide +kernel
theorem dX1_waysInAll_16 : decode cX1_waysInAll 16 = .ok (.if_icmp .ge 33, 3) := by decide +kernel
theorem dX1_waysInAll_19 : decode cX1_waysInAll 19 = .ok (.lload_n 2, 1) := by decide +kernel
theorem dX1_waysInAll_20 : decode cX1_waysInAll 20 = .ok (.aload_n 0, 1) := by decide +kernel
theorem dX1_waysInAll_21 : decode cX1_waysInAll 21 = .ok (.getfield 32, 3) := by decide +kernel
theorem dX1_waysInAll_24 : decode cX1_waysInAll 24 = .ok (.aload_n 0, 1) := by decide +kernel
theorem dX1_waysInAll_25 : decode cX1_waysInAll 25 = .ok (.getfield 32, 3) := by decide +kernel
theorem dX1_waysInAll_28 : decode cX1_waysInAll 28 = .ok (.iload_n 1, 1) := by decide +kernel
theorem dX1_waysInAll_29 : decode cX1_waysInAll 29 = .ok (.iload 4, 2) := by decide +kernel
theorem dX1_waysInAll_31 : decode cX1_waysInAll 31 = .ok (.invokevirtual 41, 3) := by decide +kernel
theorem dX1_waysInAll_34 : decode cX1_waysInAll 34 = .ok (.invokevirtual 45, 3) := by decide +kernel
theorem dX1_waysInAll_37 : decode cX1_waysInAll 37 = .ok (.invokestatic 53, 3) := by decide +kernel
theorem dX1_waysInAll_40 : decode cX1_waysInAll 40 = .ok (.i2l, 1) := by decide +kernel
theorem dX1_waysInAll_41 : decode cX1_waysInAll 41 = .ok (.lmul, 1) := by decide +kernel
theorem dX1_waysInAll_42 : decode cX1_waysInAll 42 = .ok (.lstore_n 2, 1) := by decide +kernel
theorem dX1_waysInAll_43 : decode cX1_waysInAll 43 = .ok (.iinc 4 1, 3) := by decide +kernel
theorem dX1_waysInAll_46 : decode cX1_waysInAll 46 = .ok (.goto (-41), 3) := by decide +kernel
theorem dX1_waysInAll_49 : decode cX1_waysInAll 49 = .ok (.lload_n 2, 1) := by decide +kernel
theorem dX1_waysInAll_50 : decode cX1_waysInAll 50 = .ok (.lreturn, 1) := by decide +kernel
set_option maxRecDepth 20000 in
theorem ggX1_spanWords_X3_toldAt : GoodIn wsX1_spanWords wsX3_toldAt := goodIn_r _ [10, 11, 35, 36, 37, 38, 39, 40, 41, 42, 43, 44, 45] (by decide +kernel) (by decide +kernel)
set_option maxRecDepth 20000 in
theorem gX1_spanWords_X3_toldAt : GoodIn wsX1_spanWords (wsV RX1 41 RX3 yX3_toldAt wsX3_toldAt) := goodIn_app (goodIn_of _ (by decide +kernel)) ggX1_spanWords_X3_toldAt
set_option maxRecDepth 20000 in
theorem ggX1_spanWords_X3_lengthsOf : GoodIn wsX1_spanWords wsX3_lengthsOf := goodIn_r _ [15, 16, 17, 18, 19, 20, 21, 9, 22, 35, 36, 37, 38, 39, 40, 41, 42, 43, 44, 45] (by decide +kernel) (by decide +kernel)
set_option maxRecDepth 20000 in
theorem gX1_spanWords_X3_lengthsOf : GoodIn wsX1_spanWords (wsV RX1 45 RX3 yX3_lengthsOf wsX3_lengthsOf) := goodIn_app (goodIn_of _ (by decide +kernel)) ggX1_spanWords_X3_lengthsOf
set_option maxRecDepth 20000 in
theorem ggX1_spanWords_X1_spanPart : GoodIn wsX1_spanWords wsX1_spanPart := goodIn_r _ [27, 4, 5, 28, 29, 30, 31, 32, 33, 34] (by decide +kernel) (by decide +kernel)
set_option maxRecDepth 20000 in
theorem gX1_spanWords_X1_spanPart : GoodIn wsX1_spanWords (wsV RX1 58 RX1 yX1_spanPart wsX1_spanPart) := goodIn_app (goodIn_of _ (by decide +kernel)) ggX1_spanWords_X1_spanPart
theorem dX1_spanWords_0 : decode cX1_spanWords 0 = .ok (.aload_n 0, 1) := by decide +kernel
theorem dX1_spanWords_1 : decode cX1_spanWords 1 = .ok (.aload_n 0, 1) := by decide +kernel
theorem dX1_spanWords_2 : decode cX1_spanWords 2 = .ok (.getfield 32, 3) := by decide +kernel
theorem dX1_spanWords_5 : decode cX1_spanWords 5 = .ok (.getfield 36, 3) := by decide +kernel
theorem dX1_spanWords_8 : decode cX1_spanWords 8 = .ok (.iload_n 1, 1) := by decide +kernel
theorem dX1_spanWords_9 : decode cX1_spanWords 9 = .ok (.iaload, 1) := by decide +kernel
theorem dX1_spanWords_10 : decode cX1_spanWords 10 = .ok (.putfield 28, 3) := by decide +kernel
theorem dX1_spanWords_13 : decode cX1_spanWords 13 = .ok (.aload_n 0, 1) := by decide +kernel
theorem dX1_spanWords_14 : decode cX1_spanWords 14 = .ok (.getfield 22, 3) := by decide +kernel
theorem dX1_spanWords_17 : decode cX1_spanWords 17 = .ok (.iconst 0, 1) := by decide +kernel
theorem dX1_spanWords_18 : decode cX1_spanWords 18 = .ok (.lconst 1, 1) := by decide +kernel
theorem dX1_spanWords_19 : decode cX1_spanWords 19 = .ok (.lastore, 1) := by decide +kernel
theorem dX1_spanWords_20 : decode cX1_spanWords 20 = .ok (.aload_n 0, 1) := by decide +kernel
theorem dX1_spanWords_21 : decode cX1_spanWords 21 = .ok (.getfield 25, 3) := by decide +kernel
theorem dX1_spanWords_24 : decode cX1_spanWords 24 = .ok (.iconst 0, 1) := by decide +kernel
theorem dX1_spanWords_25 : decode cX1_spanWords 25 = .ok (.lconst 0, 1) := by decide +kernel
theorem dX1_spanWords_26 : decode cX1_spanWords 26 = .ok (.lastore, 1) := by decide +kernel
theorem dX1_spanWords_27 : decode cX1_spanWords 27 = .ok (.iconst 0, 1) := by decide +kernel
theorem dX1_spanWords_28 : decode cX1_spanWords 28 = .ok (.istore_n 2, 1) := by decide +kernel
theorem dX1_spanWords_29 : decode cX1_spanWords 29 = .ok (.iload_n 2, 1) := by decide +kernel
theorem dX1_spanWords_30 : decode cX1_spanWords 30 = .ok (.aload_n 0, 1) := by decide +kernel
theorem dX1_spanWords_31 : decode cX1_spanWords 31 = .ok (.getfield 28, 3) := by decide +kernel
theorem dX1_spanWords_34 : decode cX1_spanWords 34 = .ok (.if_icmp .ge 30, 3) := by decide +kernel
theorem dX1_spanWords_37 : decode cX1_spanWords 37 = .ok (.aload_n 0, 1) := by decide +kernel
theorem dX1_spanWords_38 : decode cX1_spanWords 38 = .ok (.iload_n 2, 1) := by decide +kernel
theorem dX1_spanWords_39 : decode cX1_spanWords 39 = .ok (.aload_n 0, 1) := by decide +kernel
theorem dX1_spanWords_40 : decode cX1_spanWords 40 = .ok (.getfield 32, 3) := by decide +kernel
theorem dX1_spanWords_43 : decode cX1_spanWords 43 = .ok (.aload_n 0, 1) := by decide +kernel
theorem dX1_spanWords_44 : decode cX1_spanWords 44 = .ok (.getfield 32, 3) := by decide +kernel
theorem dX1_spanWords_47 : decode cX1_spanWords 47 = .ok (.iload_n 1, 1) := by decide +kernel
theorem dX1_spanWords_48 : decode cX1_spanWords 48 = .ok (.iload_n 2, 1) := by decide +kernel
theorem dX1_spanWords_49 : decode cX1_spanWords 49 = .ok (.invokevirtual 41, 3) := by decide +kernel
theorem dX1_spanWords_52 : decode cX1_spanWords 52 = .ok (.invokevirtual 45, 3) := by decide +kernel
theorem dX1_spanWords_55 : decode cX1_spanWords 55 = .ok (.invokevirtual 58, 3) := by decide +kernel
theorem dX1_spanWords_58 : decode cX1_spanWords 58 = .ok (.iinc 2 1, 3) := by decide +kernel
theorem dX1_spanWords_61 : decode cX1_spanWords 61 = .ok (.goto (-32), 3) := by decide +kernel
theorem dX1_spanWords_64 : decode cX1_spanWords 64 = .ok (.return_, 1) := by decide +kernel
theorem dX1_spanPart_0 : decode cX1_spanPart 0 = .ok (.lconst 0, 1) := by decide +kernel
theorem dX1_spanPart_1 : decode cX1_spanPart 1 = .ok (.lstore_n 3, 1) := by decide +kernel
theorem dX1_spanPart_2 : decode cX1_spanPart 2 = .ok (.lconst 0, 1) := by decide +kernel
theorem dX1_spanPart_3 : decode cX1_spanPart 3 = .ok (.lstore 5, 2) := by decide +kernel
theorem dX1_spanPart_5 : decode cX1_spanPart 5 = .ok (.iconst 0, 1) := by decide +kernel
theorem dX1_spanPart_6 : decode cX1_spanPart 6 = .ok (.istore 7, 2) := by decide +kernel
theorem dX1_spanPart_8 : decode cX1_spanPart 8 = .ok (.iload 7, 2) := by decide +kernel
theorem dX1_spanPart_10 : decode cX1_spanPart 10 = .ok (.bipush 24, 2) := by decide +kernel
theorem dX1_spanPart_12 : decode cX1_spanPart 12 = .ok (.if_icmp .gt 67, 3) := by decide +kernel
theorem dX1_spanPart_15 : decode cX1_spanPart 15 = .ok (.iload_n 2, 1) := by decide +kernel
theorem dX1_spanPart_16 : decode cX1_spanPart 16 = .ok (.iload 7, 2) := by decide +kernel
theorem dX1_spanPart_18 : decode cX1_spanPart 18 = .ok (.ishr, 1) := by decide +kernel
theorem dX1_spanPart_19 : decode cX1_spanPart 19 = .ok (.iconst 1, 1) := by decide +kernel
theorem dX1_spanPart_20 : decode cX1_spanPart 20 = .ok (.iand, 1) := by decide +kernel
theorem dX1_spanPart_21 : decode cX1_spanPart 21 = .ok (.iconst 1, 1) := by decide +kernel
theorem dX1_spanPart_22 : decode cX1_spanPart 22 = .ok (.if_icmp .ne 51, 3) := by decide +kernel
theorem dX1_spanPart_25 : decode cX1_spanPart 25 = .ok (.lload_n 3, 1) := by decide +kernel
theorem dX1_spanPart_26 : decode cX1_spanPart 26 = .ok (.aload_n 0, 1) := by decide +kernel
theorem dX1_spanPart_27 : decode cX1_spanPart 27 = .ok (.getfield 22, 3) := by decide +kernel
theorem dX1_spanPart_30 : decode cX1_spanPart 30 = .ok (.iload_n 1, 1) := by decide +kernel
theorem dX1_spanPart_31 : decode cX1_spanPart 31 = .ok (.laload, 1) := by decide +kernel
theorem dX1_spanPart_32 : decode cX1_spanPart 32 = .ok (.iload 7, 2) := by decide +kernel
theorem dX1_spanPart_34 : decode cX1_spanPart 34 = .ok (.lshl, 1) := by decide +kernel
theorem dX1_spanPart_35 : decode cX1_spanPart 35 = .ok (.lor, 1) := by decide +kernel
theorem dX1_spanPart_36 : decode cX1_spanPart 36 = .ok (.lstore_n 3, 1) := by decide +kernel
theorem dX1_spanPart_37 : decode cX1_spanPart 37 = .ok (.lload 5, 2) := by decide +kernel
theorem dX1_spanPart_39 : decode cX1_spanPart 39 = .ok (.aload_n 0, 1) := by decide +kernel
theorem dX1_spanPart_40 : decode cX1_spanPart 40 = .ok (.getfield 25, 3) := by decide +kernel
theorem dX1_spanPart_43 : decode cX1_spanPart 43 = .ok (.iload_n 1, 1) := by decide +kernel
theorem dX1_spanPart_44 : decode cX1_spanPart 44 = .ok (.laload, 1) := by decide +kernel
theorem dX1_spanPart_45 : decode cX1_spanPart 45 = .ok (.iload 7, 2) := by decide +kernel
theorem dX1_spanPart_47 : decode cX1_spanPart 47 = .ok (.lshl, 1) := by decide +kernel
theorem dX1_spanPart_48 : decode cX1_spanPart 48 = .ok (.iload 7, 2) := by decide +kernel
theorem dX1_spanPart_50 : decode cX1_spanPart 50 = .ok (.ifCond .ne 7, 3) := by decide +kernel
theorem dX1_spanPart_53 : decode cX1_spanPart 53 = .ok (.lconst 0, 1) := by decide +kernel
theorem dX1_spanPart_54 : decode cX1_spanPart 54 = .ok (.goto 15, 3) := by decide +kernel
theorem dX1_spanPart_57 : decode cX1_spanPart 57 = .ok (.aload_n 0, 1) := by decide +kernel
theorem dX1_spanPart_58 : decode cX1_spanPart 58 = .ok (.getfield 22, 3) := by decide +kernel
theorem dX1_spanPart_61 : decode cX1_spanPart 61 = .ok (.iload_n 1, 1) := by decide +kernel
theorem dX1_spanPart_62 : decode cX1_spanPart 62 = .ok (.laload, 1) := by decide +kernel
theorem dX1_spanPart_63 : decode cX1_spanPart 63 = .ok (.bipush 64, 2) := by decide +kernel
theorem dX1_spanPart_65 : decode cX1_spanPart 65 = .ok (.iload 7, 2) := by decide +kernel
theorem dX1_spanPart_67 : decode cX1_spanPart 67 = .ok (.isub, 1) := by decide +kernel
theorem dX1_spanPart_68 : decode cX1_spanPart 68 = .ok (.lushr, 1) := by decide +kernel
theorem dX1_spanPart_69 : decode cX1_spanPart 69 = .ok (.lor, 1) := by decide +kernel
theorem dX1_spanPart_70 : decode cX1_spanPart 70 = .ok (.lor, 1) := by decide +kernel
theorem dX1_spanPart_71 : decode cX1_spanPart 71 = .ok (.lstore 5, 2) := by decide +kernel
theorem dX1_spanPart_73 : decode cX1_spanPart 73 = .ok (.iinc 7 1, 3) := by decide +kernel
theorem dX1_spanPart_76 : decode cX1_spanPart 76 = .ok (.goto (-68), 3) := by decide +kernel
theorem dX1_spanPart_79 : decode cX1_spanPart 79 = .ok (.aload_n 0, 1) := by decide +kernel
theorem dX1_spanPart_80 : decode cX1_spanPart 80 = .ok (.getfield 22, 3) := by decide +kernel
theorem dX1_spanPart_83 : decode cX1_spanPart 83 = .ok (.iload_n 1, 1) := by decide +kernel
theorem dX1_spanPart_84 : decode cX1_spanPart 84 = .ok (.iconst 1, 1) := by decide +kernel
theorem dX1_spanPart_85 : decode cX1_spanPart 85 = .ok (.iadd, 1) := by decide +kernel
theorem dX1_spanPart_86 : decode cX1_spanPart 86 = .ok (.lload_n 3, 1) := by decide +kernel
theorem dX1_spanPart_87 : decode cX1_spanPart 87 = .ok (.lastore, 1) := by decide +kernel
theorem dX1_spanPart_88 : decode cX1_spanPart 88 = .ok (.aload_n 0, 1) := by decide +kernel
theorem dX1_spanPart_89 : decode cX1_spanPart 89 = .ok (.getfield 25, 3) := by decide +kernel
theorem dX1_spanPart_92 : decode cX1_spanPart 92 = .ok (.iload_n 1, 1) := by decide +kernel
theorem dX1_spanPart_93 : decode cX1_spanPart 93 = .ok (.iconst 1, 1) := by decide +kernel
theorem dX1_spanPart_94 : decode cX1_spanPart 94 = .ok (.iadd, 1) := by decide +kernel
theorem dX1_spanPart_95 : decode cX1_spanPart 95 = .ok (.lload 5, 2) := by decide +kernel
theorem dX1_spanPart_97 : decode cX1_spanPart 97 = .ok (.lastore, 1) := by decide +kernel
theorem dX1_spanPart_98 : decode cX1_spanPart 98 = .ok (.return_, 1) := by decide +kernel
theorem dX1_isSpanned_0 : decode cX1_isSpanned 0 = .ok (.iload_n 2, 1) := by decide +kernel
theorem dX1_isSpanned_1 : decode cX1_isSpanned 1 = .ok (.ifCond .lt 9, 3) := by decide +kernel
theorem dX1_isSpanned_4 : decode cX1_isSpanned 4 = .ok (.iload_n 2, 1) := by decide +kernel
theorem dX1_isSpanned_5 : decode cX1_isSpanned 5 = .ok (.bipush 120, 2) := by decide +kernel
theorem dX1_isSpanned_7 : decode cX1_isSpanned 7 = .ok (.if_icmp .le 5, 3) := by decide +kernel
theorem dX1_isSpanned_10 : decode cX1_isSpanned 10 = .ok (.iconst 0, 1) := by decide +kernel
theorem dX1_isSpanned_11 : decode cX1_isSpanned 11 = .ok (.ireturn, 1) := by decide +kernel
theorem dX1_isSpanned_12 : decode cX1_isSpanned 12 = .ok (.iload_n 2, 1) := by decide +kernel
theorem dX1_isSpanned_13 : decode cX1_isSpanned 13 = .ok (.bipush 64, 2) := by decide +kernel
theorem dX1_isSpanned_15 : decode cX1_isSpanned 15 = .ok (.if_icmp .ge 14, 3) := by decide +kernel
theorem dX1_isSpanned_18 : decode cX1_isSpanned 18 = .ok (.aload_n 0, 1) := by decide +kernel
theorem dX1_isSpanned_19 : decode cX1_isSpanned 19 = .ok (.getfield 22, 3) := by decide +kernel
theorem dX1_isSpanned_22 : decode cX1_isSpanned 22 = .ok (.iload_n 1, 1) := by decide +kernel
theorem dX1_isSpanned_23 : decode cX1_isSpanned 23 = .ok (.laload, 1) := by decide +kernel
theorem dX1_isSpanned_24 : decode cX1_isSpanned 24 = .ok (.iload_n 2, 1) := by decide +kernel
theorem dX1_isSpanned_25 : decode cX1_isSpanned 25 = .ok (.lushr, 1) := by decide +kernel
theorem dX1_isSpanned_26 : decode cX1_isSpanned 26 = .ok (.goto 14, 3) := by decide +kernel
theorem dX1_isSpanned_29 : decode cX1_isSpanned 29 = .ok (.aload_n 0, 1) := by decide +kernel
theorem dX1_isSpanned_30 : decode cX1_isSpanned 30 = .ok (.getfield 25, 3) := by decide +kernel
theorem dX1_isSpanned_33 : decode cX1_isSpanned 33 = .ok (.iload_n 1, 1) := by decide +kernel
theorem dX1_isSpanned_34 : decode cX1_isSpanned 34 = .ok (.laload, 1) := by decide +kernel
theorem dX1_isSpanned_35 : decode cX1_isSpanned 35 = .ok (.iload_n 2, 1) := by decide +kernel
theorem dX1_isSpanned_36 : decode cX1_isSpanned 36 = .ok (.bipush 64, 2) := by decide +kernel
theorem dX1_isSpanned_38 : decode cX1_isSpanned 38 = .ok (.isub, 1) := by decide +kernel
theorem dX1_isSpanned_39 : decode cX1_isSpanned 39 = .ok (.lushr, 1) := by decide +kernel
theorem dX1_isSpanned_40 : decode cX1_isSpanned 40 = .ok (.lconst 1, 1) := by decide +kernel
theorem dX1_isSpanned_41 : decode cX1_isSpanned 41 = .ok (.land, 1) := by decide +kernel
theorem dX1_isSpanned_42 : decode cX1_isSpanned 42 = .ok (.lconst 1, 1) := by decide +kernel
theorem dX1_isSpanned_43 : decode cX1_isSpanned 43 = .ok (.lcmp, 1) := by decide +kernel
theorem dX1_isSpanned_44 : decode cX1_isSpanned 44 = .ok (.ifCond .ne 7, 3) := by decide +kernel
theorem dX1_isSpanned_47 : decode cX1_isSpanned 47 = .ok (.iconst 1, 1) := by decide +kernel
theorem dX1_isSpanned_48 : decode cX1_isSpanned 48 = .ok (.goto 4, 3) := by decide +kernel
theorem dX1_isSpanned_51 : decode cX1_isSpanned 51 = .ok (.iconst 0, 1) := by decide +kernel
theorem dX1_isSpanned_52 : decode cX1_isSpanned 52 = .ok (.ireturn, 1) := by decide +kernel
set_option maxRecDepth 20000 in
theorem ggX1_canBeIn_X1_isSpanned : GoodIn wsX1_canBeIn wsX1_isSpanned := goodIn_r _ [6, 7, 8, 9, 10, 11, 12, 13, 14, 15] (by decide +kernel) (by decide +kernel)
set_option maxRecDepth 20000 in
theorem gX1_canBeIn_X1_isSpanned : GoodIn wsX1_canBeIn (wsV RX1 61 RX1 yX1_isSpanned wsX1_isSpanned) := goodIn_app (goodIn_of _ (by decide +kernel)) ggX1_canBeIn_X1_isSpanned
theorem dX1_canBeIn_0 : decode cX1_canBeIn 0 = .ok (.aload_n 0, 1) := by decide +kernel
theorem dX1_canBeIn_1 : decode cX1_canBeIn 1 = .ok (.aload_n 0, 1) := by decide +kernel
theorem dX1_canBeIn_2 : decode cX1_canBeIn 2 = .ok (.getfield 28, 3) := by decide +kernel
theorem dX1_canBeIn_5 : decode cX1_canBeIn 5 = .ok (.iload_n 1, 1) := by decide +kernel
theorem dX1_canBeIn_6 : decode cX1_canBeIn 6 = .ok (.invokevirtual 61, 3) := by decide +kernel
theorem dX1_canBeIn_9 : decode cX1_canBeIn 9 = .ok (.ireturn, 1) := by decide +kernel
set_option maxRecDepth 20000 in
theorem ggX1_isFilledBy_X1_canBeIn : GoodIn wsX1_isFilledBy wsX1_canBeIn := goodIn_r _ [5, 6, 7, 8, 9, 4, 10, 11, 12, 13, 14, 15, 16, 17, 18, 19] (by decide +kernel) (by decide +kernel)
set_option maxRecDepth 20000 in
theorem gX1_isFilledBy_X1_canBeIn : GoodIn wsX1_isFilledBy (wsV RX1 65 RX1 yX1_canBeIn wsX1_canBeIn) := goodIn_app (goodIn_of _ (by decide +kernel)) ggX1_isFilledBy_X1_canBeIn
theorem dX1_isFilledBy_0 : decode cX1_isFilledBy 0 = .ok (.iconst 0, 1) := by decide +kernel
theorem dX1_isFilledBy_1 : decode cX1_isFilledBy 1 = .ok (.istore_n 3, 1) := by decide +kernel
theorem dX1_isFilledBy_2 : decode cX1_isFilledBy 2 = .ok (.iload_n 3, 1) := by decide +kernel
theorem dX1_isFilledBy_3 : decode cX1_isFilledBy 3 = .ok (.bipush 24, 2) := by decide +kernel
theorem dX1_isFilledBy_5 : decode cX1_isFilledBy 5 = .ok (.if_icmp .gt 30, 3) := by decide +kernel
theorem dX1_isFilledBy_8 : decode cX1_isFilledBy 8 = .ok (.iload_n 1, 1) := by decide +kernel
theorem dX1_isFilledBy_9 : decode cX1_isFilledBy 9 = .ok (.iload_n 3, 1) := by decide +kernel
theorem dX1_isFilledBy_10 : decode cX1_isFilledBy 10 = .ok (.ishr, 1) := by decide +kernel
theorem dX1_isFilledBy_11 : decode cX1_isFilledBy 11 = .ok (.iconst 1, 1) := by decide +kernel
theorem dX1_isFilledBy_12 : decode cX1_isFilledBy 12 = .ok (.iand, 1) := by decide +kernel
theorem dX1_isFilledBy_13 : decode cX1_isFilledBy 13 = .ok (.iconst 1, 1) := by decide +kernel
theorem dX1_isFilledBy_14 : decode cX1_isFilledBy 14 = .ok (.if_icmp .ne 15, 3) := by decide +kernel
theorem dX1_isFilledBy_17 : decode cX1_isFilledBy 17 = .ok (.aload_n 0, 1) := by decide +kernel
theorem dX1_isFilledBy_18 : decode cX1_isFilledBy 18 = .ok (.iload_n 2, 1) := by decide +kernel
theorem dX1_isFilledBy_19 : decode cX1_isFilledBy 19 = .ok (.iload_n 3, 1) := by decide +kernel
theorem dX1_isFilledBy_20 : decode cX1_isFilledBy 20 = .ok (.isub, 1) := by decide +kernel
theorem dX1_isFilledBy_21 : decode cX1_isFilledBy 21 = .ok (.invokevirtual 65, 3) := by decide +kernel
theorem dX1_isFilledBy_24 : decode cX1_isFilledBy 24 = .ok (.ifCond .eq 5, 3) := by decide +kernel
theorem dX1_isFilledBy_27 : decode cX1_isFilledBy 27 = .ok (.iconst 1, 1) := by decide +kernel
theorem dX1_isFilledBy_28 : decode cX1_isFilledBy 28 = .ok (.ireturn, 1) := by decide +kernel
theorem dX1_isFilledBy_29 : decode cX1_isFilledBy 29 = .ok (.iinc 3 1, 3) := by decide +kernel
theorem dX1_isFilledBy_32 : decode cX1_isFilledBy 32 = .ok (.goto (-30), 3) := by decide +kernel
theorem dX1_isFilledBy_35 : decode cX1_isFilledBy 35 = .ok (.iconst 0, 1) := by decide +kernel
theorem dX1_isFilledBy_36 : decode cX1_isFilledBy 36 = .ok (.ireturn, 1) := by decide +kernel
set_option maxRecDepth 20000 in
theorem ggX1_fewestWords_X1_canBeIn : GoodIn wsX1_fewestWords wsX1_canBeIn := goodIn_r _ [5, 6, 7, 8, 9, 4, 10, 11, 12, 13, 14, 15, 16, 17, 18, 19] (by decide +kernel) (by decide +kernel)
set_option maxRecDepth 20000 in
theorem gX1_fewestWords_X1_canBeIn : GoodIn wsX1_fewestWords (wsV RX1 65 RX1 yX1_canBeIn wsX1_canBeIn) := goodIn_app (goodIn_of _ (by decide +kernel)) ggX1_fewestWords_X1_canBeIn
theorem dX1_fewestWords_0 : decode cX1_fewestWords 0 = .ok (.iconst 0, 1) := by decide +kernel
theorem dX1_fewestWords_1 : decode cX1_fewestWords 1 = .ok (.istore_n 1, 1) := by decide +kernel
theorem dX1_fewestWords_2 : decode cX1_fewestWords 2 = .ok (.iload_n 1, 1) := by decide +kernel
theorem dX1_fewestWords_3 : decode cX1_fewestWords 3 = .ok (.bipush 120, 2) := by decide +kernel
theorem dX1_fewestWords_5 : decode cX1_fewestWords 5 = .ok (.if_icmp .gt 19, 3) := by decide +kernel
theorem dX1_fewestWords_8 : decode cX1_fewestWords 8 = .ok (.aload_n 0, 1) := by decide +kernel
theorem dX1_fewestWords_9 : decode cX1_fewestWords 9 = .ok (.iload_n 1, 1) := by decide +kernel
theorem dX1_fewestWords_10 : decode cX1_fewestWords 10 = .ok (.invokevirtual 65, 3) := by decide +kernel
theorem dX1_fewestWords_13 : decode cX1_fewestWords 13 = .ok (.ifCond .eq 5, 3) := by decide +kernel
theorem dX1_fewestWords_16 : decode cX1_fewestWords 16 = .ok (.iload_n 1, 1) := by decide +kernel
theorem dX1_fewestWords_17 : decode cX1_fewestWords 17 = .ok (.ireturn, 1) := by decide +kernel
theorem dX1_fewestWords_18 : decode cX1_fewestWords 18 = .ok (.iinc 1 1, 3) := by decide +kernel
theorem dX1_fewestWords_21 : decode cX1_fewestWords 21 = .ok (.goto (-19), 3) := by decide +kernel
theorem dX1_fewestWords_24 : decode cX1_fewestWords 24 = .ok (.bipush 121, 2) := by decide +kernel
theorem dX1_fewestWords_26 : decode cX1_fewestWords 26 = .ok (.ireturn, 1) := by decide +kernel
set_option maxRecDepth 20000 in
theorem ggX1_mostWords_X1_canBeIn : GoodIn wsX1_mostWords wsX1_canBeIn := goodIn_r _ [5, 6, 7, 8, 9, 4, 10, 11, 12, 13, 14, 15, 16, 17, 18, 19] (by decide +kernel) (by decide +kernel)
set_option maxRecDepth 20000 in
theorem gX1_mostWords_X1_canBeIn : GoodIn wsX1_mostWords (wsV RX1 65 RX1 yX1_canBeIn wsX1_canBeIn) := goodIn_app (goodIn_of _ (by decide +kernel)) ggX1_mostWords_X1_canBeIn
theorem dX1_mostWords_0 : decode cX1_mostWords 0 = .ok (.bipush 120, 2) := by decide +kernel
theorem dX1_mostWords_2 : decode cX1_mostWords 2 = .ok (.istore_n 1, 1) := by decide +kernel
theorem dX1_mostWords_3 : decode cX1_mostWords 3 = .ok (.iload_n 1, 1) := by decide +kernel
theorem dX1_mostWords_4 : decode cX1_mostWords 4 = .ok (.ifCond .lt 19, 3) := by decide +kernel
theorem dX1_mostWords_7 : decode cX1_mostWords 7 = .ok (.aload_n 0, 1) := by decide +kernel
theorem dX1_mostWords_8 : decode cX1_mostWords 8 = .ok (.iload_n 1, 1) := by decide +kernel
theorem dX1_mostWords_9 : decode cX1_mostWords 9 = .ok (.invokevirtual 65, 3) := by decide +kernel
theorem dX1_mostWords_12 : decode cX1_mostWords 12 = .ok (.ifCond .eq 5, 3) := by decide +kernel
theorem dX1_mostWords_15 : decode cX1_mostWords 15 = .ok (.iload_n 1, 1) := by decide +kernel
theorem dX1_mostWords_16 : decode cX1_mostWords 16 = .ok (.ireturn, 1) := by decide +kernel
theorem dX1_mostWords_17 : decode cX1_mostWords 17 = .ok (.iinc 1 (-1), 3) := by decide +kernel
theorem dX1_mostWords_20 : decode cX1_mostWords 20 = .ok (.goto (-17), 3) := by decide +kernel
theorem dX1_mostWords_23 : decode cX1_mostWords 23 = .ok (.iconst (-1), 1) := by decide +kernel
theorem dX1_mostWords_24 : decode cX1_mostWords 24 = .ok (.ireturn, 1) := by decide +kernel
set_option maxRecDepth 20000 in
theorem ggX1_gapsBetween_X1_canBeIn : GoodIn wsX1_gapsBetween wsX1_canBeIn := goodIn_r _ [5, 6, 7, 8, 9, 4, 10, 11, 12, 13, 14, 15, 16, 17, 18, 19] (by decide +kernel) (by decide +kernel)
set_option maxRecDepth 20000 in
theorem gX1_gapsBetween_X1_canBeIn : GoodIn wsX1_gapsBetween (wsV RX1 65 RX1 yX1_canBeIn wsX1_canBeIn) := goodIn_app (goodIn_of _ (by decide +kernel)) ggX1_gapsBetween_X1_canBeIn
theorem dX1_gapsBetween_0 : decode cX1_gapsBetween 0 = .ok (.iconst 0, 1) := by decide +kernel
theorem dX1_gapsBetween_1 : decode cX1_gapsBetween 1 = .ok (.istore_n 3, 1) := by decide +kernel
theorem dX1_gapsBetween_2 : decode cX1_gapsBetween 2 = .ok (.iload_n 1, 1) := by decide +kernel
theorem dX1_gapsBetween_3 : decode cX1_gapsBetween 3 = .ok (.istore 4, 2) := by decide +kernel
theorem dX1_gapsBetween_5 : decode cX1_gapsBetween 5 = .ok (.iload 4, 2) := by decide +kernel
theorem dX1_gapsBetween_7 : decode cX1_gapsBetween 7 = .ok (.iload_n 2, 1) := by decide +kernel
theorem dX1_gapsBetween_8 : decode cX1_gapsBetween 8 = .ok (.if_icmp .gt 21, 3) := by decide +kernel
theorem dX1_gapsBetween_11 : decode cX1_gapsBetween 11 = .ok (.aload_n 0, 1) := by decide +kernel
theorem dX1_gapsBetween_12 : decode cX1_gapsBetween 12 = .ok (.iload 4, 2) := by decide +kernel
theorem dX1_gapsBetween_14 : decode cX1_gapsBetween 14 = .ok (.invokevirtual 65, 3) := by decide +kernel
theorem dX1_gapsBetween_17 : decode cX1_gapsBetween 17 = .ok (.ifCond .ne 6, 3) := by decide +kernel
theorem dX1_gapsBetween_20 : decode cX1_gapsBetween 20 = .ok (.iinc 3 1, 3) := by decide +kernel
theorem dX1_gapsBetween_23 : decode cX1_gapsBetween 23 = .ok (.iinc 4 1, 3) := by decide +kernel
theorem dX1_gapsBetween_26 : decode cX1_gapsBetween 26 = .ok (.goto (-21), 3) := by decide +kernel
theorem dX1_gapsBetween_29 : decode cX1_gapsBetween 29 = .ok (.iload_n 3, 1) := by decide +kernel
theorem dX1_gapsBetween_30 : decode cX1_gapsBetween 30 = .ok (.ireturn, 1) := by decide +kernel
set_option maxRecDepth 20000 in
theorem ggX1_sayableTo_X1_canBeIn : GoodIn wsX1_sayableTo wsX1_canBeIn := goodIn_r _ [8, 9, 10, 11, 12, 7, 13, 14, 15, 16, 17, 18, 19, 20, 21, 22] (by decide +kernel) (by decide +kernel)
set_option maxRecDepth 20000 in
theorem gX1_sayableTo_X1_canBeIn : GoodIn wsX1_sayableTo (wsV RX1 65 RX1 yX1_canBeIn wsX1_canBeIn) := goodIn_app (goodIn_of _ (by decide +kernel)) ggX1_sayableTo_X1_canBeIn
theorem dX1_sayableTo_0 : decode cX1_sayableTo 0 = .ok (.iconst 0, 1) := by decide +kernel
theorem dX1_sayableTo_1 : decode cX1_sayableTo 1 = .ok (.istore_n 1, 1) := by decide +kernel
theorem dX1_sayableTo_2 : decode cX1_sayableTo 2 = .ok (.iconst 0, 1) := by decide +kernel
theorem dX1_sayableTo_3 : decode cX1_sayableTo 3 = .ok (.istore_n 2, 1) := by decide +kernel
theorem dX1_sayableTo_4 : decode cX1_sayableTo 4 = .ok (.iload_n 2, 1) := by decide +kernel
theorem dX1_sayableTo_5 : decode cX1_sayableTo 5 = .ok (.aload_n 0, 1) := by decide +kernel
theorem dX1_sayableTo_6 : decode cX1_sayableTo 6 = .ok (.getfield 32, 3) := by decide +kernel
theorem dX1_sayableTo_9 : decode cX1_sayableTo 9 = .ok (.getfield 69, 3) := by decide +kernel
theorem dX1_sayableTo_12 : decode cX1_sayableTo 12 = .ok (.if_icmp .ge 31, 3) := by decide +kernel
theorem dX1_sayableTo_15 : decode cX1_sayableTo 15 = .ok (.aload_n 0, 1) := by decide +kernel
theorem dX1_sayableTo_16 : decode cX1_sayableTo 16 = .ok (.aload_n 0, 1) := by decide +kernel
theorem dX1_sayableTo_17 : decode cX1_sayableTo 17 = .ok (.getfield 32, 3) := by decide +kernel
theorem dX1_sayableTo_20 : decode cX1_sayableTo 20 = .ok (.getfield 72, 3) := by decide +kernel
theorem dX1_sayableTo_23 : decode cX1_sayableTo 23 = .ok (.iload_n 2, 1) := by decide +kernel
theorem dX1_sayableTo_24 : decode cX1_sayableTo 24 = .ok (.iaload, 1) := by decide +kernel
theorem dX1_sayableTo_25 : decode cX1_sayableTo 25 = .ok (.invokevirtual 65, 3) := by decide +kernel
theorem dX1_sayableTo_28 : decode cX1_sayableTo 28 = .ok (.ifCond .eq 9, 3) := by decide +kernel
theorem dX1_sayableTo_31 : decode cX1_sayableTo 31 = .ok (.iload_n 1, 1) := by decide +kernel
theorem dX1_sayableTo_32 : decode cX1_sayableTo 32 = .ok (.iconst 1, 1) := by decide +kernel
theorem dX1_sayableTo_33 : decode cX1_sayableTo 33 = .ok (.iload_n 2, 1) := by decide +kernel
theorem dX1_sayableTo_34 : decode cX1_sayableTo 34 = .ok (.ishl, 1) := by decide +kernel
theorem dX1_sayableTo_35 : decode cX1_sayableTo 35 = .ok (.ior, 1) := by decide +kernel
theorem dX1_sayableTo_36 : decode cX1_sayableTo 36 = .ok (.istore_n 1, 1) := by decide +kernel
theorem dX1_sayableTo_37 : decode cX1_sayableTo 37 = .ok (.iinc 2 1, 3) := by decide +kernel
theorem dX1_sayableTo_40 : decode cX1_sayableTo 40 = .ok (.goto (-36), 3) := by decide +kernel
theorem dX1_sayableTo_43 : decode cX1_sayableTo 43 = .ok (.iload_n 1, 1) := by decide +kernel
theorem dX1_sayableTo_44 : decode cX1_sayableTo 44 = .ok (.ireturn, 1) := by decide +kernel
set_option maxRecDepth 20000 in
theorem ggX1_comesOf_X1_isSpanned : GoodIn wsX1_comesOf wsX1_isSpanned := goodIn_r _ [5, 6, 7, 8, 9, 10, 11, 12, 13, 14] (by decide +kernel) (by decide +kernel)
set_option maxRecDepth 20000 in
theorem gX1_comesOf_X1_isSpanned : GoodIn wsX1_comesOf (wsV RX1 61 RX1 yX1_isSpanned wsX1_isSpanned) := goodIn_app (goodIn_of _ (by decide +kernel)) ggX1_comesOf_X1_isSpanned
theorem dX1_comesOf_0 : decode cX1_comesOf 0 = .ok (.iload_n 1, 1) := by decide +kernel
theorem dX1_comesOf_1 : decode cX1_comesOf 1 = .ok (.istore_n 3, 1) := by decide +kernel
theorem dX1_comesOf_2 : decode cX1_comesOf 2 = .ok (.iload_n 3, 1) := by decide +kernel
theorem dX1_comesOf_3 : decode cX1_comesOf 3 = .ok (.ifCond .le 20, 3) := by decide +kernel
theorem dX1_comesOf_6 : decode cX1_comesOf 6 = .ok (.aload_n 0, 1) := by decide +kernel
theorem dX1_comesOf_7 : decode cX1_comesOf 7 = .ok (.iload_n 3, 1) := by decide +kernel
theorem dX1_comesOf_8 : decode cX1_comesOf 8 = .ok (.iload_n 2, 1) := by decide +kernel
theorem dX1_comesOf_9 : decode cX1_comesOf 9 = .ok (.invokevirtual 61, 3) := by decide +kernel
theorem dX1_comesOf_12 : decode cX1_comesOf 12 = .ok (.ifCond .eq 5, 3) := by decide +kernel
theorem dX1_comesOf_15 : decode cX1_comesOf 15 = .ok (.iload_n 3, 1) := by decide +kernel
theorem dX1_comesOf_16 : decode cX1_comesOf 16 = .ok (.ireturn, 1) := by decide +kernel
theorem dX1_comesOf_17 : decode cX1_comesOf 17 = .ok (.iinc 3 (-1), 3) := by decide +kernel
theorem dX1_comesOf_20 : decode cX1_comesOf 20 = .ok (.goto (-18), 3) := by decide +kernel
theorem dX1_comesOf_23 : decode cX1_comesOf 23 = .ok (.iconst 0, 1) := by decide +kernel
theorem dX1_comesOf_24 : decode cX1_comesOf 24 = .ok (.ireturn, 1) := by decide +kernel
set_option maxRecDepth 20000 in
theorem ggX1_findBest_X1_findGains : GoodIn wsX1_findBest wsX1_findGains := goodIn_r _ [10, 2, 3, 1, 4, 11, 12, 13, 14, 15, 16, 17, 18, 19, 20, 21, 22, 23, 24, 25, 26, 27, 28, 29, 30, 31, 32, 33, 34, 35, 9, 36, 41, 42, 43, 44, 45, 46, 47, 48, 49, 50, 51, 52, 53, 54, 55, 56, 57, 58] (by decide +kernel) (by decide +kernel)
set_option maxRecDepth 20000 in
theorem gX1_findBest_X1_findGains : GoodIn wsX1_findBest (wsV RX1 75 RX1 yX1_findGains wsX1_findGains) := goodIn_app (goodIn_of _ (by decide +kernel)) ggX1_findBest_X1_findGains
set_option maxRecDepth 20000 in
theorem ggX1_findBest_X1_firstBestLength : GoodIn wsX1_findBest wsX1_firstBestLength := goodIn_r _ [40, 2, 1, 4, 11, 12, 13, 14, 15, 16, 17, 18, 19, 20, 21, 22, 23, 24, 25, 26, 27, 28, 29, 30, 31, 32, 41, 42, 43, 44, 45, 46, 47, 48, 49, 50, 51, 52, 53, 54, 55, 56, 57, 58] (by decide +kernel) (by decide +kernel)
set_option maxRecDepth 20000 in
theorem gX1_findBest_X1_firstBestLength : GoodIn wsX1_findBest (wsV RX1 80 RX1 yX1_firstBestLength wsX1_firstBestLength) := goodIn_app (goodIn_of _ (by decide +kernel)) ggX1_findBest_X1_firstBestLength
theorem dX1_findBest_0 : decode cX1_findBest 0 = .ok (.aload_n 0, 1) := by decide +kernel
theorem dX1_findBest_1 : decode cX1_findBest 1 = .ok (.iload_n 1, 1) := by decide +kernel
theorem dX1_findBest_2 : decode cX1_findBest 2 = .ok (.invokevirtual 75, 3) := by decide +kernel
theorem dX1_findBest_5 : decode cX1_findBest 5 = .ok (.aload_n 0, 1) := by decide +kernel
theorem dX1_findBest_6 : decode cX1_findBest 6 = .ok (.getfield 15, 3) := by decide +kernel
theorem dX1_findBest_9 : decode cX1_findBest 9 = .ok (.iload_n 2, 1) := by decide +kernel
theorem dX1_findBest_10 : decode cX1_findBest 10 = .ok (.iaload, 1) := by decide +kernel
theorem dX1_findBest_11 : decode cX1_findBest 11 = .ok (.istore_n 3, 1) := by decide +kernel
theorem dX1_findBest_12 : decode cX1_findBest 12 = .ok (.iload_n 2, 1) := by decide +kernel
theorem dX1_findBest_13 : decode cX1_findBest 13 = .ok (.istore 4, 2) := by decide +kernel
theorem dX1_findBest_15 : decode cX1_findBest 15 = .ok (.iconst 0, 1) := by decide +kernel
theorem dX1_findBest_16 : decode cX1_findBest 16 = .ok (.istore 5, 2) := by decide +kernel
theorem dX1_findBest_18 : decode cX1_findBest 18 = .ok (.iload 5, 2) := by decide +kernel
theorem dX1_findBest_20 : decode cX1_findBest 20 = .ok (.aload_n 0, 1) := by decide +kernel
theorem dX1_findBest_21 : decode cX1_findBest 21 = .ok (.getfield 32, 3) := by decide +kernel
theorem dX1_findBest_24 : decode cX1_findBest 24 = .ok (.getfield 36, 3) := by decide +kernel
theorem dX1_findBest_27 : decode cX1_findBest 27 = .ok (.iload_n 1, 1) := by decide +kernel
theorem dX1_findBest_28 : decode cX1_findBest 28 = .ok (.iaload, 1) := by decide +kernel
theorem dX1_findBest_29 : decode cX1_findBest 29 = .ok (.if_icmp .ge 43, 3) := by decide +kernel
theorem dX1_findBest_32 : decode cX1_findBest 32 = .ok (.iload_n 3, 1) := by decide +kernel
theorem dX1_findBest_33 : decode cX1_findBest 33 = .ok (.ldc 79, 2) := by decide +kernel
theorem dX1_findBest_35 : decode cX1_findBest 35 = .ok (.if_icmp .eq 37, 3) := by decide +kernel
theorem dX1_findBest_38 : decode cX1_findBest 38 = .ok (.aload_n 0, 1) := by decide +kernel
theorem dX1_findBest_39 : decode cX1_findBest 39 = .ok (.getfield 19, 3) := by decide +kernel
theorem dX1_findBest_42 : decode cX1_findBest 42 = .ok (.iload 5, 2) := by decide +kernel
theorem dX1_findBest_44 : decode cX1_findBest 44 = .ok (.aload_n 0, 1) := by decide +kernel
theorem dX1_findBest_45 : decode cX1_findBest 45 = .ok (.iload_n 1, 1) := by decide +kernel
theorem dX1_findBest_46 : decode cX1_findBest 46 = .ok (.iload 5, 2) := by decide +kernel
theorem dX1_findBest_48 : decode cX1_findBest 48 = .ok (.iload 4, 2) := by decide +kernel
theorem dX1_findBest_50 : decode cX1_findBest 50 = .ok (.invokevirtual 80, 3) := by decide +kernel
theorem dX1_findBest_53 : decode cX1_findBest 53 = .ok (.iastore, 1) := by decide +kernel
theorem dX1_findBest_54 : decode cX1_findBest 54 = .ok (.iload 4, 2) := by decide +kernel
theorem dX1_findBest_56 : decode cX1_findBest 56 = .ok (.aload_n 0, 1) := by decide +kernel
theorem dX1_findBest_57 : decode cX1_findBest 57 = .ok (.getfield 19, 3) := by decide +kernel
theorem dX1_findBest_60 : decode cX1_findBest 60 = .ok (.iload 5, 2) := by decide +kernel
theorem dX1_findBest_62 : decode cX1_findBest 62 = .ok (.iaload, 1) := by decide +kernel
theorem dX1_findBest_63 : decode cX1_findBest 63 = .ok (.isub, 1) := by decide +kernel
theorem dX1_findBest_64 : decode cX1_findBest 64 = .ok (.istore 4, 2) := by decide +kernel
theorem dX1_findBest_66 : decode cX1_findBest 66 = .ok (.iinc 5 1, 3) := by decide +kernel
theorem dX1_findBest_69 : decode cX1_findBest 69 = .ok (.goto (-51), 3) := by decide +kernel
theorem dX1_findBest_72 : decode cX1_findBest 72 = .ok (.iload_n 3, 1) := by decide +kernel
theorem dX1_findBest_73 : decode cX1_findBest 73 = .ok (.ireturn, 1) := by decide +kernel
set_option maxRecDepth 20000 in
theorem ggX1_richestWords_X1_findGains : GoodIn wsX1_richestWords wsX1_findGains := goodIn_r _ [7, 8, 9, 2, 1, 10, 11, 12, 13, 14, 15, 16, 17, 18, 19, 20, 21, 22, 23, 24, 25, 26, 27, 28, 29, 30, 31, 32, 33, 34, 6, 35, 36, 37, 38, 39, 40, 41, 42, 43, 44, 45, 46, 47, 48, 49, 50, 51, 52, 53] (by decide +kernel) (by decide +kernel)
set_option maxRecDepth 20000 in
theorem gX1_richestWords_X1_findGains : GoodIn wsX1_richestWords (wsV RX1 75 RX1 yX1_findGains wsX1_findGains) := goodIn_app (goodIn_of _ (by decide +kernel)) ggX1_richestWords_X1_findGains
theorem dX1_richestWords_0 : decode cX1_richestWords 0 = .ok (.aload_n 0, 1) := by decide +kernel
theorem dX1_richestWords_1 : decode cX1_richestWords 1 = .ok (.iload_n 1, 1) := by decide +kernel
theorem dX1_richestWords_2 : decode cX1_richestWords 2 = .ok (.invokevirtual 75, 3) := by decide +kernel
theorem dX1_richestWords_5 : decode cX1_richestWords 5 = .ok (.iconst (-1), 1) := by decide +kernel
theorem dX1_richestWords_6 : decode cX1_richestWords 6 = .ok (.istore_n 2, 1) := by decide +kernel
theorem dX1_richestWords_7 : decode cX1_richestWords 7 = .ok (.ldc 79, 2) := by decide +kernel
theorem dX1_richestWords_9 : decode cX1_richestWords 9 = .ok (.istore_n 3, 1) := by decide +kernel
theorem dX1_richestWords_10 : decode cX1_richestWords 10 = .ok (.iconst 0, 1) := by decide +kernel
theorem dX1_richestWords_11 : decode cX1_richestWords 11 = .ok (.istore 4, 2) := by decide +kernel
theorem dX1_richestWords_13 : decode cX1_richestWords 13 = .ok (.iload 4, 2) := by decide +kernel
theorem dX1_richestWords_15 : decode cX1_richestWords 15 = .ok (.bipush 121, 2) := by decide +kernel
theorem dX1_richestWords_17 : decode cX1_richestWords 17 = .ok (.if_icmp .ge 31, 3) := by decide +kernel
theorem dX1_richestWords_20 : decode cX1_richestWords 20 = .ok (.aload_n 0, 1) := by decide +kernel
theorem dX1_richestWords_21 : decode cX1_richestWords 21 = .ok (.getfield 15, 3) := by decide +kernel
theorem dX1_richestWords_24 : decode cX1_richestWords 24 = .ok (.iload 4, 2) := by decide +kernel
theorem dX1_richestWords_26 : decode cX1_richestWords 26 = .ok (.iaload, 1) := by decide +kernel
theorem dX1_richestWords_27 : decode cX1_richestWords 27 = .ok (.iload_n 3, 1) := by decide +kernel
theorem dX1_richestWords_28 : decode cX1_richestWords 28 = .ok (.if_icmp .le 14, 3) := by decide +kernel
theorem dX1_richestWords_31 : decode cX1_richestWords 31 = .ok (.iload 4, 2) := by decide +kernel
theorem dX1_richestWords_33 : decode cX1_richestWords 33 = .ok (.istore_n 2, 1) := by decide +kernel
theorem dX1_richestWords_34 : decode cX1_richestWords 34 = .ok (.aload_n 0, 1) := by decide +kernel
theorem dX1_richestWords_35 : decode cX1_richestWords 35 = .ok (.getfield 15, 3) := by decide +kernel
theorem dX1_richestWords_38 : decode cX1_richestWords 38 = .ok (.iload 4, 2) := by decide +kernel
theorem dX1_richestWords_40 : decode cX1_richestWords 40 = .ok (.iaload, 1) := by decide +kernel
theorem dX1_richestWords_41 : decode cX1_richestWords 41 = .ok (.istore_n 3, 1) := by decide +kernel
theorem dX1_richestWords_42 : decode cX1_richestWords 42 = .ok (.iinc 4 1, 3) := by decide +kernel
theorem dX1_richestWords_45 : decode cX1_richestWords 45 = .ok (.goto (-32), 3) := by decide +kernel
theorem dX1_richestWords_48 : decode cX1_richestWords 48 = .ok (.iload_n 2, 1) := by decide +kernel
theorem dX1_richestWords_49 : decode cX1_richestWords 49 = .ok (.ireturn, 1) := by decide +kernel
set_option maxRecDepth 20000 in
theorem ggX1_findGains_X3_toldAt : GoodIn wsX1_findGains wsX3_toldAt := goodIn_r _ [9, 10, 39, 40, 41, 42, 43, 44, 45, 46, 47, 48, 49] (by decide +kernel) (by decide +kernel)
set_option maxRecDepth 20000 in
theorem gX1_findGains_X3_toldAt : GoodIn wsX1_findGains (wsV RX1 41 RX3 yX3_toldAt wsX3_toldAt) := goodIn_app (goodIn_of _ (by decide +kernel)) ggX1_findGains_X3_toldAt
set_option maxRecDepth 20000 in
theorem ggX1_findGains_X3_lengthsOf : GoodIn wsX1_findGains wsX3_lengthsOf := goodIn_r _ [14, 15, 16, 17, 18, 19, 20, 8, 21, 39, 40, 41, 42, 43, 44, 45, 46, 47, 48, 49] (by decide +kernel) (by decide +kernel)
set_option maxRecDepth 20000 in
theorem gX1_findGains_X3_lengthsOf : GoodIn wsX1_findGains (wsV RX1 45 RX3 yX3_lengthsOf wsX3_lengthsOf) := goodIn_app (goodIn_of _ (by decide +kernel)) ggX1_findGains_X3_lengthsOf
set_option maxRecDepth 20000 in
theorem ggX1_findGains_X3_valueOf : GoodIn wsX1_findGains wsX3_valueOf := goodIn_r _ [25, 26, 17, 16, 39, 40, 41, 42, 43, 44, 45, 46, 47, 48, 49] (by decide +kernel) (by decide +kernel)
set_option maxRecDepth 20000 in
theorem gX1_findGains_X3_valueOf : GoodIn wsX1_findGains (wsV RX1 84 RX3 yX3_valueOf wsX3_valueOf) := goodIn_app (goodIn_of _ (by decide +kernel)) ggX1_findGains_X3_valueOf
set_option maxRecDepth 20000 in
theorem ggX1_findGains_X1_gainWith : GoodIn wsX1_findGains wsX1_gainWith := goodIn_r _ [31, 3, 4, 32, 33, 34, 35, 36, 37, 38] (by decide +kernel) (by decide +kernel)
set_option maxRecDepth 20000 in
theorem gX1_findGains_X1_gainWith : GoodIn wsX1_findGains (wsV RX1 87 RX1 yX1_gainWith wsX1_gainWith) := goodIn_app (goodIn_of _ (by decide +kernel)) ggX1_findGains_X1_gainWith
theorem dX1_findGains_0 : decode cX1_findGains 0 = .ok (.aload_n 0, 1) := by decide +kernel
theorem dX1_findGains_1 : decode cX1_findGains 1 = .ok (.getfield 32, 3) := by decide +kernel
theorem dX1_findGains_4 : decode cX1_findGains 4 = .ok (.getfield 36, 3) := by decide +kernel
theorem dX1_findGains_7 : decode cX1_findGains 7 = .ok (.iload_n 1, 1) := by decide +kernel
theorem dX1_findGains_8 : decode cX1_findGains 8 = .ok (.iaload, 1) := by decide +kernel
theorem dX1_findGains_9 : decode cX1_findGains 9 = .ok (.istore_n 2, 1) := by decide +kernel
theorem dX1_findGains_10 : decode cX1_findGains 10 = .ok (.iconst 0, 1) := by decide +kernel
theorem dX1_findGains_11 : decode cX1_findGains 11 = .ok (.istore_n 3, 1) := by decide +kernel
theorem dX1_findGains_12 : decode cX1_findGains 12 = .ok (.iload_n 3, 1) := by decide +kernel
theorem dX1_findGains_13 : decode cX1_findGains 13 = .ok (.iload_n 2, 1) := by decide +kernel
theorem dX1_findGains_14 : decode cX1_findGains 14 = .ok (.iconst 1, 1) := by decide +kernel
theorem dX1_findGains_15 : decode cX1_findGains 15 = .ok (.iadd, 1) := by decide +kernel
theorem dX1_findGains_16 : decode cX1_findGains 16 = .ok (.bipush 121, 2) := by decide +kernel
theorem dX1_findGains_18 : decode cX1_findGains 18 = .ok (.imul, 1) := by decide +kernel
theorem dX1_findGains_19 : decode cX1_findGains 19 = .ok (.if_icmp .ge 17, 3) := by decide +kernel
theorem dX1_findGains_22 : decode cX1_findGains 22 = .ok (.aload_n 0, 1) := by decide +kernel
theorem dX1_findGains_23 : decode cX1_findGains 23 = .ok (.getfield 15, 3) := by decide +kernel
theorem dX1_findGains_26 : decode cX1_findGains 26 = .ok (.iload_n 3, 1) := by decide +kernel
theorem dX1_findGains_27 : decode cX1_findGains 27 = .ok (.ldc 79, 2) := by decide +kernel
theorem dX1_findGains_29 : decode cX1_findGains 29 = .ok (.iastore, 1) := by decide +kernel
theorem dX1_findGains_30 : decode cX1_findGains 30 = .ok (.iinc 3 1, 3) := by decide +kernel
theorem dX1_findGains_33 : decode cX1_findGains 33 = .ok (.goto (-21), 3) := by decide +kernel
theorem dX1_findGains_36 : decode cX1_findGains 36 = .ok (.aload_n 0, 1) := by decide +kernel
theorem dX1_findGains_37 : decode cX1_findGains 37 = .ok (.getfield 15, 3) := by decide +kernel
theorem dX1_findGains_40 : decode cX1_findGains 40 = .ok (.iload_n 2, 1) := by decide +kernel
theorem dX1_findGains_41 : decode cX1_findGains 41 = .ok (.bipush 121, 2) := by decide +kernel
theorem dX1_findGains_43 : decode cX1_findGains 43 = .ok (.imul, 1) := by decide +kernel
theorem dX1_findGains_44 : decode cX1_findGains 44 = .ok (.iconst 0, 1) := by decide +kernel
theorem dX1_findGains_45 : decode cX1_findGains 45 = .ok (.iastore, 1) := by decide +kernel
theorem dX1_findGains_46 : decode cX1_findGains 46 = .ok (.iload_n 2, 1) := by decide +kernel
theorem dX1_findGains_47 : decode cX1_findGains 47 = .ok (.iconst 1, 1) := by decide +kernel
theorem dX1_findGains_48 : decode cX1_findGains 48 = .ok (.isub, 1) := by decide +kernel
theorem dX1_findGains_49 : decode cX1_findGains 49 = .ok (.istore_n 3, 1) := by decide +kernel
theorem dX1_findGains_50 : decode cX1_findGains 50 = .ok (.iload_n 3, 1) := by decide +kernel
theorem dX1_findGains_51 : decode cX1_findGains 51 = .ok (.ifCond .lt 76, 3) := by decide +kernel
theorem dX1_findGains_54 : decode cX1_findGains 54 = .ok (.aload_n 0, 1) := by decide +kernel
theorem dX1_findGains_55 : decode cX1_findGains 55 = .ok (.getfield 32, 3) := by decide +kernel
theorem dX1_findGains_58 : decode cX1_findGains 58 = .ok (.iload_n 1, 1) := by decide +kernel
theorem dX1_findGains_59 : decode cX1_findGains 59 = .ok (.iload_n 3, 1) := by decide +kernel
theorem dX1_findGains_60 : decode cX1_findGains 60 = .ok (.invokevirtual 41, 3) := by decide +kernel
theorem dX1_findGains_63 : decode cX1_findGains 63 = .ok (.istore 4, 2) := by decide +kernel
theorem dX1_findGains_65 : decode cX1_findGains 65 = .ok (.aload_n 0, 1) := by decide +kernel
theorem dX1_findGains_66 : decode cX1_findGains 66 = .ok (.getfield 32, 3) := by decide +kernel
theorem dX1_findGains_69 : decode cX1_findGains 69 = .ok (.iload 4, 2) := by decide +kernel
theorem dX1_findGains_71 : decode cX1_findGains 71 = .ok (.invokevirtual 45, 3) := by decide +kernel
theorem dX1_findGains_74 : decode cX1_findGains 74 = .ok (.istore 5, 2) := by decide +kernel
theorem dX1_findGains_76 : decode cX1_findGains 76 = .ok (.iconst 0, 1) := by decide +kernel
theorem dX1_findGains_77 : decode cX1_findGains 77 = .ok (.istore 6, 2) := by decide +kernel
theorem dX1_findGains_79 : decode cX1_findGains 79 = .ok (.iload 6, 2) := by decide +kernel
theorem dX1_findGains_81 : decode cX1_findGains 81 = .ok (.bipush 24, 2) := by decide +kernel
theorem dX1_findGains_83 : decode cX1_findGains 83 = .ok (.if_icmp .gt 38, 3) := by decide +kernel
theorem dX1_findGains_86 : decode cX1_findGains 86 = .ok (.iload 5, 2) := by decide +kernel
theorem dX1_findGains_88 : decode cX1_findGains 88 = .ok (.iload 6, 2) := by decide +kernel
theorem dX1_findGains_90 : decode cX1_findGains 90 = .ok (.ishr, 1) := by decide +kernel
theorem dX1_findGains_91 : decode cX1_findGains 91 = .ok (.iconst 1, 1) := by decide +kernel
theorem dX1_findGains_92 : decode cX1_findGains 92 = .ok (.iand, 1) := by decide +kernel
theorem dX1_findGains_93 : decode cX1_findGains 93 = .ok (.iconst 1, 1) := by decide +kernel
theorem dX1_findGains_94 : decode cX1_findGains 94 = .ok (.if_icmp .ne 21, 3) := by decide +kernel
theorem dX1_findGains_97 : decode cX1_findGains 97 = .ok (.aload_n 0, 1) := by decide +kernel
theorem dX1_findGains_98 : decode cX1_findGains 98 = .ok (.iload_n 3, 1) := by decide +kernel
theorem dX1_findGains_99 : decode cX1_findGains 99 = .ok (.iload 6, 2) := by decide +kernel
theorem dX1_findGains_101 : decode cX1_findGains 101 = .ok (.aload_n 0, 1) := by decide +kernel
theorem dX1_findGains_102 : decode cX1_findGains 102 = .ok (.getfield 32, 3) := by decide +kernel
theorem dX1_findGains_105 : decode cX1_findGains 105 = .ok (.iload 4, 2) := by decide +kernel
theorem dX1_findGains_107 : decode cX1_findGains 107 = .ok (.iload 6, 2) := by decide +kernel
theorem dX1_findGains_109 : decode cX1_findGains 109 = .ok (.invokevirtual 84, 3) := by decide +kernel
theorem dX1_findGains_112 : decode cX1_findGains 112 = .ok (.invokevirtual 87, 3) := by decide +kernel
theorem dX1_findGains_115 : decode cX1_findGains 115 = .ok (.iinc 6 1, 3) := by decide +kernel
theorem dX1_findGains_118 : decode cX1_findGains 118 = .ok (.goto (-39), 3) := by decide +kernel
theorem dX1_findGains_121 : decode cX1_findGains 121 = .ok (.iinc 3 (-1), 3) := by decide +kernel
theorem dX1_findGains_124 : decode cX1_findGains 124 = .ok (.goto (-74), 3) := by decide +kernel
theorem dX1_findGains_127 : decode cX1_findGains 127 = .ok (.return_, 1) := by decide +kernel
theorem dX1_gainWith_0 : decode cX1_gainWith 0 = .ok (.iload_n 1, 1) := by decide +kernel
theorem dX1_gainWith_1 : decode cX1_gainWith 1 = .ok (.bipush 121, 2) := by decide +kernel
theorem dX1_gainWith_3 : decode cX1_gainWith 3 = .ok (.imul, 1) := by decide +kernel
theorem dX1_gainWith_4 : decode cX1_gainWith 4 = .ok (.iload_n 2, 1) := by decide +kernel
theorem dX1_gainWith_5 : decode cX1_gainWith 5 = .ok (.iadd, 1) := by decide +kernel
theorem dX1_gainWith_6 : decode cX1_gainWith 6 = .ok (.istore 4, 2) := by decide +kernel
theorem dX1_gainWith_8 : decode cX1_gainWith 8 = .ok (.iload_n 1, 1) := by decide +kernel
theorem dX1_gainWith_9 : decode cX1_gainWith 9 = .ok (.iconst 1, 1) := by decide +kernel
theorem dX1_gainWith_10 : decode cX1_gainWith 10 = .ok (.iadd, 1) := by decide +kernel
theorem dX1_gainWith_11 : decode cX1_gainWith 11 = .ok (.bipush 121, 2) := by decide +kernel
theorem dX1_gainWith_13 : decode cX1_gainWith 13 = .ok (.imul, 1) := by decide +kernel
theorem dX1_gainWith_14 : decode cX1_gainWith 14 = .ok (.istore 5, 2) := by decide +kernel
theorem dX1_gainWith_16 : decode cX1_gainWith 16 = .ok (.iconst 0, 1) := by decide +kernel
theorem dX1_gainWith_17 : decode cX1_gainWith 17 = .ok (.istore 6, 2) := by decide +kernel
theorem dX1_gainWith_19 : decode cX1_gainWith 19 = .ok (.iload 6, 2) := by decide +kernel
theorem dX1_gainWith_21 : decode cX1_gainWith 21 = .ok (.iload_n 2, 1) := by decide +kernel
theorem dX1_gainWith_22 : decode cX1_gainWith 22 = .ok (.iadd, 1) := by decide +kernel
theorem dX1_gainWith_23 : decode cX1_gainWith 23 = .ok (.bipush 121, 2) := by decide +kernel
theorem dX1_gainWith_25 : decode cX1_gainWith 25 = .ok (.if_icmp .ge 59, 3) := by decide +kernel
theorem dX1_gainWith_28 : decode cX1_gainWith 28 = .ok (.aload_n 0, 1) := by decide +kernel
theorem dX1_gainWith_29 : decode cX1_gainWith 29 = .ok (.getfield 15, 3) := by decide +kernel
theorem dX1_gainWith_32 : decode cX1_gainWith 32 = .ok (.iload 5, 2) := by decide +kernel
theorem dX1_gainWith_34 : decode cX1_gainWith 34 = .ok (.iload 6, 2) := by decide +kernel
theorem dX1_gainWith_36 : decode cX1_gainWith 36 = .ok (.iadd, 1) := by decide +kernel
theorem dX1_gainWith_37 : decode cX1_gainWith 37 = .ok (.iaload, 1) := by decide +kernel
theorem dX1_gainWith_38 : decode cX1_gainWith 38 = .ok (.istore 7, 2) := by decide +kernel
theorem dX1_gainWith_40 : decode cX1_gainWith 40 = .ok (.iload 7, 2) := by decide +kernel
theorem dX1_gainWith_42 : decode cX1_gainWith 42 = .ok (.ldc 79, 2) := by decide +kernel
theorem dX1_gainWith_44 : decode cX1_gainWith 44 = .ok (.if_icmp .eq 34, 3) := by decide +kernel
theorem dX1_gainWith_47 : decode cX1_gainWith 47 = .ok (.iload 7, 2) := by decide +kernel
theorem dX1_gainWith_49 : decode cX1_gainWith 49 = .ok (.iload_n 3, 1) := by decide +kernel
theorem dX1_gainWith_50 : decode cX1_gainWith 50 = .ok (.iadd, 1) := by decide +kernel
theorem dX1_gainWith_51 : decode cX1_gainWith 51 = .ok (.aload_n 0, 1) := by decide +kernel
theorem dX1_gainWith_52 : decode cX1_gainWith 52 = .ok (.getfield 15, 3) := by decide +kernel
theorem dX1_gainWith_55 : decode cX1_gainWith 55 = .ok (.iload 4, 2) := by decide +kernel
theorem dX1_gainWith_57 : decode cX1_gainWith 57 = .ok (.iload 6, 2) := by decide +kernel
theorem dX1_gainWith_59 : decode cX1_gainWith 59 = .ok (.iadd, 1) := by decide +kernel
theorem dX1_gainWith_60 : decode cX1_gainWith 60 = .ok (.iaload, 1) := by decide +kernel
theorem dX1_gainWith_61 : decode cX1_gainWith 61 = .ok (.if_icmp .le 17, 3) := by decide +kernel
theorem dX1_gainWith_64 : decode cX1_gainWith 64 = .ok (.aload_n 0, 1) := by decide +kernel
theorem dX1_gainWith_65 : decode cX1_gainWith 65 = .ok (.getfield 15, 3) := by decide +kernel
theorem dX1_gainWith_68 : decode cX1_gainWith 68 = .ok (.iload 4, 2) := by decide +kernel
theorem dX1_gainWith_70 : decode cX1_gainWith 70 = .ok (.iload 6, 2) := by decide +kernel
theorem dX1_gainWith_72 : decode cX1_gainWith 72 = .ok (.iadd, 1) := by decide +kernel
theorem dX1_gainWith_73 : decode cX1_gainWith 73 = .ok (.iload 7, 2) := by decide +kernel
theorem dX1_gainWith_75 : decode cX1_gainWith 75 = .ok (.iload_n 3, 1) := by decide +kernel
theorem dX1_gainWith_76 : decode cX1_gainWith 76 = .ok (.iadd, 1) := by decide +kernel
theorem dX1_gainWith_77 : decode cX1_gainWith 77 = .ok (.iastore, 1) := by decide +kernel
theorem dX1_gainWith_78 : decode cX1_gainWith 78 = .ok (.iinc 6 1, 3) := by decide +kernel
theorem dX1_gainWith_81 : decode cX1_gainWith 81 = .ok (.goto (-62), 3) := by decide +kernel
theorem dX1_gainWith_84 : decode cX1_gainWith 84 = .ok (.return_, 1) := by decide +kernel
set_option maxRecDepth 20000 in
theorem ggX1_firstBestLength_X3_toldAt : GoodIn wsX1_firstBestLength wsX3_toldAt := goodIn_r _ [8, 9, 33, 34, 35, 36, 37, 38, 39, 40, 41, 42, 43] (by decide +kernel) (by decide +kernel)
set_option maxRecDepth 20000 in
theorem gX1_firstBestLength_X3_toldAt : GoodIn wsX1_firstBestLength (wsV RX1 41 RX3 yX3_toldAt wsX3_toldAt) := goodIn_app (goodIn_of _ (by decide +kernel)) ggX1_firstBestLength_X3_toldAt
set_option maxRecDepth 20000 in
theorem ggX1_firstBestLength_X3_lengthsOf : GoodIn wsX1_firstBestLength wsX3_lengthsOf := goodIn_r _ [13, 14, 15, 16, 17, 18, 19, 7, 20, 33, 34, 35, 36, 37, 38, 39, 40, 41, 42, 43] (by decide +kernel) (by decide +kernel)
set_option maxRecDepth 20000 in
theorem gX1_firstBestLength_X3_lengthsOf : GoodIn wsX1_firstBestLength (wsV RX1 45 RX3 yX3_lengthsOf wsX3_lengthsOf) := goodIn_app (goodIn_of _ (by decide +kernel)) ggX1_firstBestLength_X3_lengthsOf
set_option maxRecDepth 20000 in
theorem ggX1_firstBestLength_X3_valueOf : GoodIn wsX1_firstBestLength wsX3_valueOf := goodIn_r _ [24, 25, 16, 15, 33, 34, 35, 36, 37, 38, 39, 40, 41, 42, 43] (by decide +kernel) (by decide +kernel)
set_option maxRecDepth 20000 in
theorem gX1_firstBestLength_X3_valueOf : GoodIn wsX1_firstBestLength (wsV RX1 84 RX3 yX3_valueOf wsX3_valueOf) := goodIn_app (goodIn_of _ (by decide +kernel)) ggX1_firstBestLength_X3_valueOf
theorem dX1_firstBestLength_0 : decode cX1_firstBestLength 0 = .ok (.aload_n 0, 1) := by decide +kernel
theorem dX1_firstBestLength_1 : decode cX1_firstBestLength 1 = .ok (.getfield 32, 3) := by decide +kernel
theorem dX1_firstBestLength_4 : decode cX1_firstBestLength 4 = .ok (.iload_n 1, 1) := by decide +kernel
theorem dX1_firstBestLength_5 : decode cX1_firstBestLength 5 = .ok (.iload_n 2, 1) := by decide +kernel
theorem dX1_firstBestLength_6 : decode cX1_firstBestLength 6 = .ok (.invokevirtual 41, 3) := by decide +kernel
theorem dX1_firstBestLength_9 : decode cX1_firstBestLength 9 = .ok (.istore 4, 2) := by decide +kernel
theorem dX1_firstBestLength_11 : decode cX1_firstBestLength 11 = .ok (.aload_n 0, 1) := by decide +kernel
theorem dX1_firstBestLength_12 : decode cX1_firstBestLength 12 = .ok (.getfield 32, 3) := by decide +kernel
theorem dX1_firstBestLength_15 : decode cX1_firstBestLength 15 = .ok (.iload 4, 2) := by decide +kernel
theorem dX1_firstBestLength_17 : decode cX1_firstBestLength 17 = .ok (.invokevirtual 45, 3) := by decide +kernel
theorem dX1_firstBestLength_20 : decode cX1_firstBestLength 20 = .ok (.istore 5, 2) := by decide +kernel
theorem dX1_firstBestLength_22 : decode cX1_firstBestLength 22 = .ok (.iload_n 2, 1) := by decide +kernel
theorem dX1_firstBestLength_23 : decode cX1_firstBestLength 23 = .ok (.iconst 1, 1) := by decide +kernel
theorem dX1_firstBestLength_24 : decode cX1_firstBestLength 24 = .ok (.iadd, 1) := by decide +kernel
theorem dX1_firstBestLength_25 : decode cX1_firstBestLength 25 = .ok (.bipush 121, 2) := by decide +kernel
theorem dX1_firstBestLength_27 : decode cX1_firstBestLength 27 = .ok (.imul, 1) := by decide +kernel
theorem dX1_firstBestLength_28 : decode cX1_firstBestLength 28 = .ok (.istore 6, 2) := by decide +kernel
theorem dX1_firstBestLength_30 : decode cX1_firstBestLength 30 = .ok (.iconst 0, 1) := by decide +kernel
theorem dX1_firstBestLength_31 : decode cX1_firstBestLength 31 = .ok (.istore 7, 2) := by decide +kernel
theorem dX1_firstBestLength_33 : decode cX1_firstBestLength 33 = .ok (.iload 7, 2) := by decide +kernel
theorem dX1_firstBestLength_35 : decode cX1_firstBestLength 35 = .ok (.bipush 24, 2) := by decide +kernel
theorem dX1_firstBestLength_37 : decode cX1_firstBestLength 37 = .ok (.if_icmp .gt 84, 3) := by decide +kernel
theorem dX1_firstBestLength_40 : decode cX1_firstBestLength 40 = .ok (.iload 7, 2) := by decide +kernel
theorem dX1_firstBestLength_42 : decode cX1_firstBestLength 42 = .ok (.iload_n 3, 1) := by decide +kernel
theorem dX1_firstBestLength_43 : decode cX1_firstBestLength 43 = .ok (.if_icmp .gt 78, 3) := by decide +kernel
theorem dX1_firstBestLength_46 : decode cX1_firstBestLength 46 = .ok (.iload 5, 2) := by decide +kernel
theorem dX1_firstBestLength_48 : decode cX1_firstBestLength 48 = .ok (.iload 7, 2) := by decide +kernel
theorem dX1_firstBestLength_50 : decode cX1_firstBestLength 50 = .ok (.ishr, 1) := by decide +kernel
theorem dX1_firstBestLength_51 : decode cX1_firstBestLength 51 = .ok (.iconst 1, 1) := by decide +kernel
theorem dX1_firstBestLength_52 : decode cX1_firstBestLength 52 = .ok (.iand, 1) := by decide +kernel
theorem dX1_firstBestLength_53 : decode cX1_firstBestLength 53 = .ok (.iconst 1, 1) := by decide +kernel
theorem dX1_firstBestLength_54 : decode cX1_firstBestLength 54 = .ok (.if_icmp .ne 61, 3) := by decide +kernel
theorem dX1_firstBestLength_57 : decode cX1_firstBestLength 57 = .ok (.aload_n 0, 1) := by decide +kernel
theorem dX1_firstBestLength_58 : decode cX1_firstBestLength 58 = .ok (.getfield 15, 3) := by decide +kernel
theorem dX1_firstBestLength_61 : decode cX1_firstBestLength 61 = .ok (.iload 6, 2) := by decide +kernel
theorem dX1_firstBestLength_63 : decode cX1_firstBestLength 63 = .ok (.iload_n 3, 1) := by decide +kernel
theorem dX1_firstBestLength_64 : decode cX1_firstBestLength 64 = .ok (.iadd, 1) := by decide +kernel
theorem dX1_firstBestLength_65 : decode cX1_firstBestLength 65 = .ok (.iload 7, 2) := by decide +kernel
theorem dX1_firstBestLength_67 : decode cX1_firstBestLength 67 = .ok (.isub, 1) := by decide +kernel
theorem dX1_firstBestLength_68 : decode cX1_firstBestLength 68 = .ok (.iaload, 1) := by decide +kernel
theorem dX1_firstBestLength_69 : decode cX1_firstBestLength 69 = .ok (.ldc 79, 2) := by decide +kernel
theorem dX1_firstBestLength_71 : decode cX1_firstBestLength 71 = .ok (.if_icmp .eq 44, 3) := by decide +kernel
theorem dX1_firstBestLength_74 : decode cX1_firstBestLength 74 = .ok (.aload_n 0, 1) := by decide +kernel
theorem dX1_firstBestLength_75 : decode cX1_firstBestLength 75 = .ok (.getfield 15, 3) := by decide +kernel
theorem dX1_firstBestLength_78 : decode cX1_firstBestLength 78 = .ok (.iload 6, 2) := by decide +kernel
theorem dX1_firstBestLength_80 : decode cX1_firstBestLength 80 = .ok (.iload_n 3, 1) := by decide +kernel
theorem dX1_firstBestLength_81 : decode cX1_firstBestLength 81 = .ok (.iadd, 1) := by decide +kernel
theorem dX1_firstBestLength_82 : decode cX1_firstBestLength 82 = .ok (.iload 7, 2) := by decide +kernel
theorem dX1_firstBestLength_84 : decode cX1_firstBestLength 84 = .ok (.isub, 1) := by decide +kernel
theorem dX1_firstBestLength_85 : decode cX1_firstBestLength 85 = .ok (.iaload, 1) := by decide +kernel
theorem dX1_firstBestLength_86 : decode cX1_firstBestLength 86 = .ok (.aload_n 0, 1) := by decide +kernel
theorem dX1_firstBestLength_87 : decode cX1_firstBestLength 87 = .ok (.getfield 32, 3) := by decide +kernel
theorem dX1_firstBestLength_90 : decode cX1_firstBestLength 90 = .ok (.iload 4, 2) := by decide +kernel
theorem dX1_firstBestLength_92 : decode cX1_firstBestLength 92 = .ok (.iload 7, 2) := by decide +kernel
theorem dX1_firstBestLength_94 : decode cX1_firstBestLength 94 = .ok (.invokevirtual 84, 3) := by decide +kernel
theorem dX1_firstBestLength_97 : decode cX1_firstBestLength 97 = .ok (.iadd, 1) := by decide +kernel
theorem dX1_firstBestLength_98 : decode cX1_firstBestLength 98 = .ok (.aload_n 0, 1) := by decide +kernel
theorem dX1_firstBestLength_99 : decode cX1_firstBestLength 99 = .ok (.getfield 15, 3) := by decide +kernel
theorem dX1_firstBestLength_102 : decode cX1_firstBestLength 102 = .ok (.iload_n 2, 1) := by decide +kernel
theorem dX1_firstBestLength_103 : decode cX1_firstBestLength 103 = .ok (.bipush 121, 2) := by decide +kernel
theorem dX1_firstBestLength_105 : decode cX1_firstBestLength 105 = .ok (.imul, 1) := by decide +kernel
theorem dX1_firstBestLength_106 : decode cX1_firstBestLength 106 = .ok (.iload_n 3, 1) := by decide +kernel
theorem dX1_firstBestLength_107 : decode cX1_firstBestLength 107 = .ok (.iadd, 1) := by decide +kernel
theorem dX1_firstBestLength_108 : decode cX1_firstBestLength 108 = .ok (.iaload, 1) := by decide +kernel
theorem dX1_firstBestLength_109 : decode cX1_firstBestLength 109 = .ok (.if_icmp .ne 6, 3) := by decide +kernel
theorem dX1_firstBestLength_112 : decode cX1_firstBestLength 112 = .ok (.iload 7, 2) := by decide +kernel
theorem dX1_firstBestLength_114 : decode cX1_firstBestLength 114 = .ok (.ireturn, 1) := by decide +kernel
theorem dX1_firstBestLength_115 : decode cX1_firstBestLength 115 = .ok (.iinc 7 1, 3) := by decide +kernel
theorem dX1_firstBestLength_118 : decode cX1_firstBestLength 118 = .ok (.goto (-85), 3) := by decide +kernel
theorem dX1_firstBestLength_121 : decode cX1_firstBestLength 121 = .ok (.iconst 0, 1) := by decide +kernel
theorem dX1_firstBestLength_122 : decode cX1_firstBestLength 122 = .ok (.ireturn, 1) := by decide +kernel
theorem dX1_understoodOfBest_0 : decode cX1_understoodOfBest 0 = .ok (.iconst 0, 1) := by decide +kernel
theorem dX1_understoodOfBest_1 : decode cX1_understoodOfBest 1 = .ok (.istore_n 3, 1) := by decide +kernel
theorem dX1_understoodOfBest_2 : decode cX1_understoodOfBest 2 = .ok (.iconst 0, 1) := by decide +kernel
theorem dX1_understoodOfBest_3 : decode cX1_understoodOfBest 3 = .ok (.istore 4, 2) := by decide +kernel
theorem dX1_understoodOfBest_5 : decode cX1_understoodOfBest 5 = .ok (.iconst 0, 1) := by decide +kernel
theorem dX1_understoodOfBest_6 : decode cX1_understoodOfBest 6 = .ok (.istore 5, 2) := by decide +kernel
theorem dX1_understoodOfBest_8 : decode cX1_understoodOfBest 8 = .ok (.iload 5, 2) := by decide +kernel
theorem dX1_understoodOfBest_10 : decode cX1_understoodOfBest 10 = .ok (.aload_n 0, 1) := by decide +kernel
theorem dX1_understoodOfBest_11 : decode cX1_understoodOfBest 11 = .ok (.getfield 32, 3) := by decide +kernel
theorem dX1_understoodOfBest_14 : decode cX1_understoodOfBest 14 = .ok (.getfield 36, 3) := by decide +kernel
theorem dX1_understoodOfBest_17 : decode cX1_understoodOfBest 17 = .ok (.iload_n 1, 1) := by decide +kernel
theorem dX1_understoodOfBest_18 : decode cX1_understoodOfBest 18 = .ok (.iaload, 1) := by decide +kernel
theorem dX1_understoodOfBest_19 : decode cX1_understoodOfBest 19 = .ok (.if_icmp .ge 30, 3) := by decide +kernel
theorem dX1_understoodOfBest_22 : decode cX1_understoodOfBest 22 = .ok (.iload 4, 2) := by decide +kernel
theorem dX1_understoodOfBest_24 : decode cX1_understoodOfBest 24 = .ok (.aload_n 0, 1) := by decide +kernel
theorem dX1_understoodOfBest_25 : decode cX1_understoodOfBest 25 = .ok (.getfield 19, 3) := by decide +kernel
theorem dX1_understoodOfBest_28 : decode cX1_understoodOfBest 28 = .ok (.iload 5, 2) := by decide +kernel
theorem dX1_understoodOfBest_30 : decode cX1_understoodOfBest 30 = .ok (.iaload, 1) := by decide +kernel
theorem dX1_understoodOfBest_31 : decode cX1_understoodOfBest 31 = .ok (.iadd, 1) := by decide +kernel
theorem dX1_understoodOfBest_32 : decode cX1_understoodOfBest 32 = .ok (.istore 4, 2) := by decide +kernel
theorem dX1_understoodOfBest_34 : decode cX1_understoodOfBest 34 = .ok (.iload 4, 2) := by decide +kernel
theorem dX1_understoodOfBest_36 : decode cX1_understoodOfBest 36 = .ok (.iload_n 2, 1) := by decide +kernel
theorem dX1_understoodOfBest_37 : decode cX1_understoodOfBest 37 = .ok (.if_icmp .gt 6, 3) := by decide +kernel
theorem dX1_understoodOfBest_40 : decode cX1_understoodOfBest 40 = .ok (.iinc 3 1, 3) := by decide +kernel
theorem dX1_understoodOfBest_43 : decode cX1_understoodOfBest 43 = .ok (.iinc 5 1, 3) := by decide +kernel
theorem dX1_understoodOfBest_46 : decode cX1_understoodOfBest 46 = .ok (.goto (-38), 3) := by decide +kernel
theorem dX1_understoodOfBest_49 : decode cX1_understoodOfBest 49 = .ok (.iload_n 3, 1) := by decide +kernel
theorem dX1_understoodOfBest_50 : decode cX1_understoodOfBest 50 = .ok (.ireturn, 1) := by decide +kernel
set_option maxRecDepth 20000 in
theorem ggX1_mostUnderstood_X3_toldAt : GoodIn wsX1_mostUnderstood wsX3_toldAt := goodIn_r _ [9, 10, 44, 45, 46, 47, 48, 49, 50, 51, 52, 53, 54] (by decide +kernel) (by decide +kernel)
set_option maxRecDepth 20000 in
theorem gX1_mostUnderstood_X3_toldAt : GoodIn wsX1_mostUnderstood (wsV RX1 41 RX3 yX3_toldAt wsX3_toldAt) := goodIn_app (goodIn_of _ (by decide +kernel)) ggX1_mostUnderstood_X3_toldAt
set_option maxRecDepth 20000 in
theorem ggX1_mostUnderstood_X3_lengthsOf : GoodIn wsX1_mostUnderstood wsX3_lengthsOf := goodIn_r _ [14, 15, 16, 17, 18, 19, 20, 8, 21, 44, 45, 46, 47, 48, 49, 50, 51, 52, 53, 54] (by decide +kernel) (by decide +kernel)
set_option maxRecDepth 20000 in
theorem gX1_mostUnderstood_X3_lengthsOf : GoodIn wsX1_mostUnderstood (wsV RX1 45 RX3 yX3_lengthsOf wsX3_lengthsOf) := goodIn_app (goodIn_of _ (by decide +kernel)) ggX1_mostUnderstood_X3_lengthsOf
set_option maxRecDepth 20000 in
theorem ggX1_mostUnderstood_X1_mostAhead : GoodIn wsX1_mostUnderstood wsX1_mostAhead := goodIn_r _ [26, 2, 1, 27, 28, 29, 30, 37, 38, 39, 40, 41, 42, 43] (by decide +kernel) (by decide +kernel)
set_option maxRecDepth 20000 in
theorem gX1_mostUnderstood_X1_mostAhead : GoodIn wsX1_mostUnderstood (wsV RX1 91 RX1 yX1_mostAhead wsX1_mostAhead) := goodIn_app (goodIn_of _ (by decide +kernel)) ggX1_mostUnderstood_X1_mostAhead
set_option maxRecDepth 20000 in
theorem ggX1_mostUnderstood_X1_hearing : GoodIn wsX1_mostUnderstood wsX1_hearing := goodIn_r _ [34, 3, 35, 36, 37, 38, 39, 40, 41, 42, 43, 44, 45, 46, 47, 48, 49, 50, 51, 52, 53, 54] (by decide +kernel) (by decide +kernel)
set_option maxRecDepth 20000 in
theorem gX1_mostUnderstood_X1_hearing : GoodIn wsX1_mostUnderstood (wsV RX1 94 RX1 yX1_hearing wsX1_hearing) := goodIn_app (goodIn_of _ (by decide +kernel)) ggX1_mostUnderstood_X1_hearing
theorem dX1_mostUnderstood_0 : decode cX1_mostUnderstood 0 = .ok (.iconst 0, 1) := by decide +kernel
theorem dX1_mostUnderstood_1 : decode cX1_mostUnderstood 1 = .ok (.istore 4, 2) := by decide +kernel
theorem dX1_mostUnderstood_3 : decode cX1_mostUnderstood 3 = .ok (.iload 4, 2) := by decide +kernel
theorem dX1_mostUnderstood_5 : decode cX1_mostUnderstood 5 = .ok (.iload_n 2, 1) := by decide +kernel
theorem dX1_mostUnderstood_6 : decode cX1_mostUnderstood 6 = .ok (.if_icmp .gt 27, 3) := by decide +kernel
theorem dX1_mostUnderstood_9 : decode cX1_mostUnderstood 9 = .ok (.aload_n 0, 1) := by decide +kernel
theorem dX1_mostUnderstood_10 : decode cX1_mostUnderstood 10 = .ok (.getfield 15, 3) := by decide +kernel
theorem dX1_mostUnderstood_13 : decode cX1_mostUnderstood 13 = .ok (.iload 4, 2) := by decide +kernel
theorem dX1_mostUnderstood_15 : decode cX1_mostUnderstood 15 = .ok (.iload 4, 2) := by decide +kernel
theorem dX1_mostUnderstood_17 : decode cX1_mostUnderstood 17 = .ok (.ifCond .ne 7, 3) := by decide +kernel
theorem dX1_mostUnderstood_20 : decode cX1_mostUnderstood 20 = .ok (.iconst 0, 1) := by decide +kernel
theorem dX1_mostUnderstood_21 : decode cX1_mostUnderstood 21 = .ok (.goto 5, 3) := by decide +kernel
theorem dX1_mostUnderstood_24 : decode cX1_mostUnderstood 24 = .ok (.ldc 79, 2) := by decide +kernel
theorem dX1_mostUnderstood_26 : decode cX1_mostUnderstood 26 = .ok (.iastore, 1) := by decide +kernel
theorem dX1_mostUnderstood_27 : decode cX1_mostUnderstood 27 = .ok (.iinc 4 1, 3) := by decide +kernel
theorem dX1_mostUnderstood_30 : decode cX1_mostUnderstood 30 = .ok (.goto (-27), 3) := by decide +kernel
theorem dX1_mostUnderstood_33 : decode cX1_mostUnderstood 33 = .ok (.iconst 0, 1) := by decide +kernel
theorem dX1_mostUnderstood_34 : decode cX1_mostUnderstood 34 = .ok (.istore 4, 2) := by decide +kernel
theorem dX1_mostUnderstood_36 : decode cX1_mostUnderstood 36 = .ok (.iload 4, 2) := by decide +kernel
theorem dX1_mostUnderstood_38 : decode cX1_mostUnderstood 38 = .ok (.aload_n 0, 1) := by decide +kernel
theorem dX1_mostUnderstood_39 : decode cX1_mostUnderstood 39 = .ok (.getfield 32, 3) := by decide +kernel
theorem dX1_mostUnderstood_42 : decode cX1_mostUnderstood 42 = .ok (.getfield 36, 3) := by decide +kernel
theorem dX1_mostUnderstood_45 : decode cX1_mostUnderstood 45 = .ok (.iload_n 1, 1) := by decide +kernel
theorem dX1_mostUnderstood_46 : decode cX1_mostUnderstood 46 = .ok (.iaload, 1) := by decide +kernel
theorem dX1_mostUnderstood_47 : decode cX1_mostUnderstood 47 = .ok (.if_icmp .ge 81, 3) := by decide +kernel
theorem dX1_mostUnderstood_50 : decode cX1_mostUnderstood 50 = .ok (.aload_n 0, 1) := by decide +kernel
theorem dX1_mostUnderstood_51 : decode cX1_mostUnderstood 51 = .ok (.getfield 32, 3) := by decide +kernel
theorem dX1_mostUnderstood_54 : decode cX1_mostUnderstood 54 = .ok (.aload_n 0, 1) := by decide +kernel
theorem dX1_mostUnderstood_55 : decode cX1_mostUnderstood 55 = .ok (.getfield 32, 3) := by decide +kernel
theorem dX1_mostUnderstood_58 : decode cX1_mostUnderstood 58 = .ok (.iload_n 1, 1) := by decide +kernel
theorem dX1_mostUnderstood_59 : decode cX1_mostUnderstood 59 = .ok (.iload 4, 2) := by decide +kernel
theorem dX1_mostUnderstood_61 : decode cX1_mostUnderstood 61 = .ok (.invokevirtual 41, 3) := by decide +kernel
theorem dX1_mostUnderstood_64 : decode cX1_mostUnderstood 64 = .ok (.invokevirtual 45, 3) := by decide +kernel
theorem dX1_mostUnderstood_67 : decode cX1_mostUnderstood 67 = .ok (.istore 5, 2) := by decide +kernel
theorem dX1_mostUnderstood_69 : decode cX1_mostUnderstood 69 = .ok (.iload_n 2, 1) := by decide +kernel
theorem dX1_mostUnderstood_70 : decode cX1_mostUnderstood 70 = .ok (.istore 6, 2) := by decide +kernel
theorem dX1_mostUnderstood_72 : decode cX1_mostUnderstood 72 = .ok (.iload 6, 2) := by decide +kernel
theorem dX1_mostUnderstood_74 : decode cX1_mostUnderstood 74 = .ok (.ifCond .lt 48, 3) := by decide +kernel
theorem dX1_mostUnderstood_77 : decode cX1_mostUnderstood 77 = .ok (.aload_n 0, 1) := by decide +kernel
theorem dX1_mostUnderstood_78 : decode cX1_mostUnderstood 78 = .ok (.iload 5, 2) := by decide +kernel
theorem dX1_mostUnderstood_80 : decode cX1_mostUnderstood 80 = .ok (.iload 6, 2) := by decide +kernel
theorem dX1_mostUnderstood_82 : decode cX1_mostUnderstood 82 = .ok (.invokevirtual 91, 3) := by decide +kernel
theorem dX1_mostUnderstood_85 : decode cX1_mostUnderstood 85 = .ok (.istore 7, 2) := by decide +kernel
theorem dX1_mostUnderstood_87 : decode cX1_mostUnderstood 87 = .ok (.aload_n 0, 1) := by decide +kernel
theorem dX1_mostUnderstood_88 : decode cX1_mostUnderstood 88 = .ok (.getfield 15, 3) := by decide +kernel
theorem dX1_mostUnderstood_91 : decode cX1_mostUnderstood 91 = .ok (.iload 6, 2) := by decide +kernel
theorem dX1_mostUnderstood_93 : decode cX1_mostUnderstood 93 = .ok (.iload 7, 2) := by decide +kernel
theorem dX1_mostUnderstood_95 : decode cX1_mostUnderstood 95 = .ok (.ldc 79, 2) := by decide +kernel
theorem dX1_mostUnderstood_97 : decode cX1_mostUnderstood 97 = .ok (.if_icmp .ne 8, 3) := by decide +kernel
theorem dX1_mostUnderstood_100 : decode cX1_mostUnderstood 100 = .ok (.ldc 79, 2) := by decide +kernel
theorem dX1_mostUnderstood_102 : decode cX1_mostUnderstood 102 = .ok (.goto 13, 3) := by decide +kernel
theorem dX1_mostUnderstood_105 : decode cX1_mostUnderstood 105 = .ok (.iload 7, 2) := by decide +kernel
theorem dX1_mostUnderstood_107 : decode cX1_mostUnderstood 107 = .ok (.aload_n 0, 1) := by decide +kernel
theorem dX1_mostUnderstood_108 : decode cX1_mostUnderstood 108 = .ok (.iload_n 3, 1) := by decide +kernel
theorem dX1_mostUnderstood_109 : decode cX1_mostUnderstood 109 = .ok (.iload 6, 2) := by decide +kernel
theorem dX1_mostUnderstood_111 : decode cX1_mostUnderstood 111 = .ok (.invokevirtual 94, 3) := by decide +kernel
theorem dX1_mostUnderstood_114 : decode cX1_mostUnderstood 114 = .ok (.iadd, 1) := by decide +kernel
theorem dX1_mostUnderstood_115 : decode cX1_mostUnderstood 115 = .ok (.iastore, 1) := by decide +kernel
theorem dX1_mostUnderstood_116 : decode cX1_mostUnderstood 116 = .ok (.iinc 6 (-1), 3) := by decide +kernel
theorem dX1_mostUnderstood_119 : decode cX1_mostUnderstood 119 = .ok (.goto (-47), 3) := by decide +kernel
theorem dX1_mostUnderstood_122 : decode cX1_mostUnderstood 122 = .ok (.iinc 4 1, 3) := by decide +kernel
theorem dX1_mostUnderstood_125 : decode cX1_mostUnderstood 125 = .ok (.goto (-89), 3) := by decide +kernel
theorem dX1_mostUnderstood_128 : decode cX1_mostUnderstood 128 = .ok (.aload_n 0, 1) := by decide +kernel
theorem dX1_mostUnderstood_129 : decode cX1_mostUnderstood 129 = .ok (.getfield 15, 3) := by decide +kernel
theorem dX1_mostUnderstood_132 : decode cX1_mostUnderstood 132 = .ok (.iload_n 2, 1) := by decide +kernel
theorem dX1_mostUnderstood_133 : decode cX1_mostUnderstood 133 = .ok (.iaload, 1) := by decide +kernel
theorem dX1_mostUnderstood_134 : decode cX1_mostUnderstood 134 = .ok (.ireturn, 1) := by decide +kernel
theorem dX1_mostAhead_0 : decode cX1_mostAhead 0 = .ok (.ldc 79, 2) := by decide +kernel
theorem dX1_mostAhead_2 : decode cX1_mostAhead 2 = .ok (.istore_n 3, 1) := by decide +kernel
theorem dX1_mostAhead_3 : decode cX1_mostAhead 3 = .ok (.iconst 0, 1) := by decide +kernel
theorem dX1_mostAhead_4 : decode cX1_mostAhead 4 = .ok (.istore 4, 2) := by decide +kernel
theorem dX1_mostAhead_6 : decode cX1_mostAhead 6 = .ok (.iload 4, 2) := by decide +kernel
theorem dX1_mostAhead_8 : decode cX1_mostAhead 8 = .ok (.iload_n 2, 1) := by decide +kernel
theorem dX1_mostAhead_9 : decode cX1_mostAhead 9 = .ok (.if_icmp .gt 40, 3) := by decide +kernel
theorem dX1_mostAhead_12 : decode cX1_mostAhead 12 = .ok (.iload 4, 2) := by decide +kernel
theorem dX1_mostAhead_14 : decode cX1_mostAhead 14 = .ok (.bipush 24, 2) := by decide +kernel
theorem dX1_mostAhead_16 : decode cX1_mostAhead 16 = .ok (.if_icmp .gt 33, 3) := by decide +kernel
theorem dX1_mostAhead_19 : decode cX1_mostAhead 19 = .ok (.iload_n 1, 1) := by decide +kernel
theorem dX1_mostAhead_20 : decode cX1_mostAhead 20 = .ok (.iload 4, 2) := by decide +kernel
theorem dX1_mostAhead_22 : decode cX1_mostAhead 22 = .ok (.ishr, 1) := by decide +kernel
theorem dX1_mostAhead_23 : decode cX1_mostAhead 23 = .ok (.iconst 1, 1) := by decide +kernel
theorem dX1_mostAhead_24 : decode cX1_mostAhead 24 = .ok (.iand, 1) := by decide +kernel
theorem dX1_mostAhead_25 : decode cX1_mostAhead 25 = .ok (.iconst 1, 1) := by decide +kernel
theorem dX1_mostAhead_26 : decode cX1_mostAhead 26 = .ok (.if_icmp .ne 17, 3) := by decide +kernel
theorem dX1_mostAhead_29 : decode cX1_mostAhead 29 = .ok (.iload_n 3, 1) := by decide +kernel
theorem dX1_mostAhead_30 : decode cX1_mostAhead 30 = .ok (.aload_n 0, 1) := by decide +kernel
theorem dX1_mostAhead_31 : decode cX1_mostAhead 31 = .ok (.getfield 15, 3) := by decide +kernel
theorem dX1_mostAhead_34 : decode cX1_mostAhead 34 = .ok (.iload_n 2, 1) := by decide +kernel
theorem dX1_mostAhead_35 : decode cX1_mostAhead 35 = .ok (.iload 4, 2) := by decide +kernel
theorem dX1_mostAhead_37 : decode cX1_mostAhead 37 = .ok (.isub, 1) := by decide +kernel
theorem dX1_mostAhead_38 : decode cX1_mostAhead 38 = .ok (.iaload, 1) := by decide +kernel
theorem dX1_mostAhead_39 : decode cX1_mostAhead 39 = .ok (.invokestatic 97, 3) := by decide +kernel
theorem dX1_mostAhead_42 : decode cX1_mostAhead 42 = .ok (.istore_n 3, 1) := by decide +kernel
theorem dX1_mostAhead_43 : decode cX1_mostAhead 43 = .ok (.iinc 4 1, 3) := by decide +kernel
theorem dX1_mostAhead_46 : decode cX1_mostAhead 46 = .ok (.goto (-40), 3) := by decide +kernel
theorem dX1_mostAhead_49 : decode cX1_mostAhead 49 = .ok (.iload_n 3, 1) := by decide +kernel
theorem dX1_mostAhead_50 : decode cX1_mostAhead 50 = .ok (.ireturn, 1) := by decide +kernel
theorem dX1_hearing_0 : decode cX1_hearing 0 = .ok (.iconst 0, 1) := by decide +kernel
theorem dX1_hearing_1 : decode cX1_hearing 1 = .ok (.istore_n 3, 1) := by decide +kernel
theorem dX1_hearing_2 : decode cX1_hearing 2 = .ok (.iconst 0, 1) := by decide +kernel
theorem dX1_hearing_3 : decode cX1_hearing 3 = .ok (.istore 4, 2) := by decide +kernel
theorem dX1_hearing_5 : decode cX1_hearing 5 = .ok (.iload 4, 2) := by decide +kernel
theorem dX1_hearing_7 : decode cX1_hearing 7 = .ok (.aload_n 0, 1) := by decide +kernel
theorem dX1_hearing_8 : decode cX1_hearing 8 = .ok (.getfield 32, 3) := by decide +kernel
theorem dX1_hearing_11 : decode cX1_hearing 11 = .ok (.getfield 69, 3) := by decide +kernel
theorem dX1_hearing_14 : decode cX1_hearing 14 = .ok (.if_icmp .ge 36, 3) := by decide +kernel
theorem dX1_hearing_17 : decode cX1_hearing 17 = .ok (.iload_n 1, 1) := by decide +kernel
theorem dX1_hearing_18 : decode cX1_hearing 18 = .ok (.iload 4, 2) := by decide +kernel
theorem dX1_hearing_20 : decode cX1_hearing 20 = .ok (.ishr, 1) := by decide +kernel
theorem dX1_hearing_21 : decode cX1_hearing 21 = .ok (.iconst 1, 1) := by decide +kernel
theorem dX1_hearing_22 : decode cX1_hearing 22 = .ok (.iand, 1) := by decide +kernel
theorem dX1_hearing_23 : decode cX1_hearing 23 = .ok (.iconst 1, 1) := by decide +kernel
theorem dX1_hearing_24 : decode cX1_hearing 24 = .ok (.if_icmp .ne 20, 3) := by decide +kernel
theorem dX1_hearing_27 : decode cX1_hearing 27 = .ok (.aload_n 0, 1) := by decide +kernel
theorem dX1_hearing_28 : decode cX1_hearing 28 = .ok (.getfield 32, 3) := by decide +kernel
theorem dX1_hearing_31 : decode cX1_hearing 31 = .ok (.getfield 72, 3) := by decide +kernel
theorem dX1_hearing_34 : decode cX1_hearing 34 = .ok (.iload 4, 2) := by decide +kernel
theorem dX1_hearing_36 : decode cX1_hearing 36 = .ok (.iaload, 1) := by decide +kernel
theorem dX1_hearing_37 : decode cX1_hearing 37 = .ok (.iload_n 2, 1) := by decide +kernel
theorem dX1_hearing_38 : decode cX1_hearing 38 = .ok (.if_icmp .lt 6, 3) := by decide +kernel
theorem dX1_hearing_41 : decode cX1_hearing 41 = .ok (.iinc 3 1, 3) := by decide +kernel
theorem dX1_hearing_44 : decode cX1_hearing 44 = .ok (.iinc 4 1, 3) := by decide +kernel
theorem dX1_hearing_47 : decode cX1_hearing 47 = .ok (.goto (-42), 3) := by decide +kernel
theorem dX1_hearing_50 : decode cX1_hearing 50 = .ok (.iload_n 3, 1) := by decide +kernel
theorem dX1_hearing_51 : decode cX1_hearing 51 = .ok (.ireturn, 1) := by decide +kernel
theorem dX2_init_0 : decode cX2_init 0 = .ok (.aload_n 0, 1) := by decide +kernel
theorem dX2_init_1 : decode cX2_init 1 = .ok (.invokespecial 3, 3) := by decide +kernel
theorem dX2_init_4 : decode cX2_init 4 = .ok (.aload_n 0, 1) := by decide +kernel
theorem dX2_init_5 : decode cX2_init 5 = .ok (.bipush 40, 2) := by decide +kernel
theorem dX2_init_7 : decode cX2_init 7 = .ok (.newarray .long, 2) := by decide +kernel
theorem dX2_init_9 : decode cX2_init 9 = .ok (.putfield 9, 3) := by decide +kernel
theorem dX2_init_12 : decode cX2_init 12 = .ok (.aload_n 0, 1) := by decide +kernel
theorem dX2_init_13 : decode cX2_init 13 = .ok (.iconst 0, 1) := by decide +kernel
theorem dX2_init_14 : decode cX2_init 14 = .ok (.putfield 15, 3) := by decide +kernel
theorem dX2_init_17 : decode cX2_init 17 = .ok (.aload_n 0, 1) := by decide +kernel
theorem dX2_init_18 : decode cX2_init 18 = .ok (.iconst 0, 1) := by decide +kernel
theorem dX2_init_19 : decode cX2_init 19 = .ok (.putfield 19, 3) := by decide +kernel
theorem dX2_init_22 : decode cX2_init 22 = .ok (.return_, 1) := by decide +kernel
theorem dX2_isMissing_0 : decode cX2_isMissing 0 = .ok (.aload_n 0, 1) := by decide +kernel
theorem dX2_isMissing_1 : decode cX2_isMissing 1 = .ok (.getfield 15, 3) := by decide +kernel
theorem dX2_isMissing_4 : decode cX2_isMissing 4 = .ok (.ifCond .ne 7, 3) := by decide +kernel
theorem dX2_isMissing_7 : decode cX2_isMissing 7 = .ok (.iconst 1, 1) := by decide +kernel
theorem dX2_isMissing_8 : decode cX2_isMissing 8 = .ok (.goto 4, 3) := by decide +kernel
theorem dX2_isMissing_11 : decode cX2_isMissing 11 = .ok (.iconst 0, 1) := by decide +kernel
theorem dX2_isMissing_12 : decode cX2_isMissing 12 = .ok (.ireturn, 1) := by decide +kernel
theorem dX2_renew_0 : decode cX2_renew 0 = .ok (.aload_n 0, 1) := by decide +kernel
theorem dX2_renew_1 : decode cX2_renew 1 = .ok (.iload_n 1, 1) := by decide +kernel
theorem dX2_renew_2 : decode cX2_renew 2 = .ok (.putfield 15, 3) := by decide +kernel
theorem dX2_renew_5 : decode cX2_renew 5 = .ok (.aload_n 0, 1) := by decide +kernel
theorem dX2_renew_6 : decode cX2_renew 6 = .ok (.iload_n 1, 1) := by decide +kernel
theorem dX2_renew_7 : decode cX2_renew 7 = .ok (.ifCond .ne 7, 3) := by decide +kernel
theorem dX2_renew_10 : decode cX2_renew 10 = .ok (.iconst 0, 1) := by decide +kernel
theorem dX2_renew_11 : decode cX2_renew 11 = .ok (.goto 4, 3) := by decide +kernel
theorem dX2_renew_14 : decode cX2_renew 14 = .ok (.iload_n 2, 1) := by decide +kernel
theorem dX2_renew_15 : decode cX2_renew 15 = .ok (.putfield 19, 3) := by decide +kernel
theorem dX2_renew_18 : decode cX2_renew 18 = .ok (.iconst 0, 1) := by decide +kernel
theorem dX2_renew_19 : decode cX2_renew 19 = .ok (.istore_n 3, 1) := by decide +kernel
theorem dX2_renew_20 : decode cX2_renew 20 = .ok (.iload_n 3, 1) := by decide +kernel
theorem dX2_renew_21 : decode cX2_renew 21 = .ok (.bipush 40, 2) := by decide +kernel
theorem dX2_renew_23 : decode cX2_renew 23 = .ok (.if_icmp .ge 16, 3) := by decide +kernel
theorem dX2_renew_26 : decode cX2_renew 26 = .ok (.aload_n 0, 1) := by decide +kernel
theorem dX2_renew_27 : decode cX2_renew 27 = .ok (.getfield 9, 3) := by decide +kernel
theorem dX2_renew_30 : decode cX2_renew 30 = .ok (.iload_n 3, 1) := by decide +kernel
theorem dX2_renew_31 : decode cX2_renew 31 = .ok (.lconst 0, 1) := by decide +kernel
theorem dX2_renew_32 : decode cX2_renew 32 = .ok (.lastore, 1) := by decide +kernel
theorem dX2_renew_33 : decode cX2_renew 33 = .ok (.iinc 3 1, 3) := by decide +kernel
theorem dX2_renew_36 : decode cX2_renew 36 = .ok (.goto (-16), 3) := by decide +kernel
theorem dX2_renew_39 : decode cX2_renew 39 = .ok (.aload_n 0, 1) := by decide +kernel
theorem dX2_renew_40 : decode cX2_renew 40 = .ok (.getfield 19, 3) := by decide +kernel
theorem dX2_renew_43 : decode cX2_renew 43 = .ok (.ireturn, 1) := by decide +kernel
theorem dX2_holds_0 : decode cX2_holds 0 = .ok (.iload_n 2, 1) := by decide +kernel
theorem dX2_holds_1 : decode cX2_holds 1 = .ok (.ifCond .lt 29, 3) := by decide +kernel
theorem dX2_holds_4 : decode cX2_holds 4 = .ok (.iload_n 2, 1) := by decide +kernel
theorem dX2_holds_5 : decode cX2_holds 5 = .ok (.aload_n 0, 1) := by decide +kernel
theorem dX2_holds_6 : decode cX2_holds 6 = .ok (.getfield 19, 3) := by decide +kernel
theorem dX2_holds_9 : decode cX2_holds 9 = .ok (.if_icmp .gt 21, 3) := by decide +kernel
theorem dX2_holds_12 : decode cX2_holds 12 = .ok (.iload_n 1, 1) := by decide +kernel
theorem dX2_holds_13 : decode cX2_holds 13 = .ok (.ifCond .lt 17, 3) := by decide +kernel
theorem dX2_holds_16 : decode cX2_holds 16 = .ok (.iload_n 1, 1) := by decide +kernel
theorem dX2_holds_17 : decode cX2_holds 17 = .ok (.aload_n 0, 1) := by decide +kernel
theorem dX2_holds_18 : decode cX2_holds 18 = .ok (.getfield 19, 3) := by decide +kernel
theorem dX2_holds_21 : decode cX2_holds 21 = .ok (.iload_n 2, 1) := by decide +kernel
theorem dX2_holds_22 : decode cX2_holds 22 = .ok (.isub, 1) := by decide +kernel
theorem dX2_holds_23 : decode cX2_holds 23 = .ok (.if_icmp .gt 7, 3) := by decide +kernel
theorem dX2_holds_26 : decode cX2_holds 26 = .ok (.iconst 1, 1) := by decide +kernel
theorem dX2_holds_27 : decode cX2_holds 27 = .ok (.goto 4, 3) := by decide +kernel
theorem dX2_holds_30 : decode cX2_holds 30 = .ok (.iconst 0, 1) := by decide +kernel
theorem dX2_holds_31 : decode cX2_holds 31 = .ok (.ireturn, 1) := by decide +kernel
set_option maxRecDepth 20000 in
theorem ggX2_put_X2_lowest : GoodIn wsX2_put wsX2_lowest := goodIn_r _ [6, 7, 8, 9, 10] (by decide +kernel) (by decide +kernel)
set_option maxRecDepth 20000 in
theorem gX2_put_X2_lowest : GoodIn wsX2_put (wsV RX2 22 RX2 yX2_lowest wsX2_lowest) := goodIn_app (goodIn_of _ (by decide +kernel)) ggX2_put_X2_lowest
theorem dX2_put_0 : decode cX2_put 0 = .ok (.aload_n 0, 1) := by decide +kernel
theorem dX2_put_1 : decode cX2_put 1 = .ok (.getfield 9, 3) := by decide +kernel
theorem dX2_put_4 : decode cX2_put 4 = .ok (.iload_n 1, 1) := by decide +kernel
theorem dX2_put_5 : decode cX2_put 5 = .ok (.laload, 1) := by decide +kernel
theorem dX2_put_6 : decode cX2_put 6 = .ok (.lstore 4, 2) := by decide +kernel
theorem dX2_put_8 : decode cX2_put 8 = .ok (.aload_n 0, 1) := by decide +kernel
theorem dX2_put_9 : decode cX2_put 9 = .ok (.getfield 9, 3) := by decide +kernel
theorem dX2_put_12 : decode cX2_put 12 = .ok (.iload_n 1, 1) := by decide +kernel
theorem dX2_put_13 : decode cX2_put 13 = .ok (.aload_n 0, 1) := by decide +kernel
theorem dX2_put_14 : decode cX2_put 14 = .ok (.lload_n 2, 1) := by decide +kernel
theorem dX2_put_15 : decode cX2_put 15 = .ok (.invokevirtual 22, 3) := by decide +kernel
theorem dX2_put_18 : decode cX2_put 18 = .ok (.lastore, 1) := by decide +kernel
theorem dX2_put_19 : decode cX2_put 19 = .ok (.lload 4, 2) := by decide +kernel
theorem dX2_put_21 : decode cX2_put 21 = .ok (.lreturn, 1) := by decide +kernel
theorem dX2_lowest_0 : decode cX2_lowest 0 = .ok (.aload_n 0, 1) := by decide +kernel
theorem dX2_lowest_1 : decode cX2_lowest 1 = .ok (.getfield 15, 3) := by decide +kernel
theorem dX2_lowest_4 : decode cX2_lowest 4 = .ok (.bipush 8, 2) := by decide +kernel
theorem dX2_lowest_6 : decode cX2_lowest 6 = .ok (.if_icmp .ne 8, 3) := by decide +kernel
theorem dX2_lowest_9 : decode cX2_lowest 9 = .ok (.lload_n 1, 1) := by decide +kernel
theorem dX2_lowest_10 : decode cX2_lowest 10 = .ok (.l2i, 1) := by decide +kernel
theorem dX2_lowest_11 : decode cX2_lowest 11 = .ok (.i2b, 1) := by decide +kernel
theorem dX2_lowest_12 : decode cX2_lowest 12 = .ok (.i2l, 1) := by decide +kernel
theorem dX2_lowest_13 : decode cX2_lowest 13 = .ok (.lreturn, 1) := by decide +kernel
theorem dX2_lowest_14 : decode cX2_lowest 14 = .ok (.aload_n 0, 1) := by decide +kernel
theorem dX2_lowest_15 : decode cX2_lowest 15 = .ok (.getfield 15, 3) := by decide +kernel
theorem dX2_lowest_18 : decode cX2_lowest 18 = .ok (.bipush 16, 2) := by decide +kernel
theorem dX2_lowest_20 : decode cX2_lowest 20 = .ok (.if_icmp .ne 10, 3) := by decide +kernel
theorem dX2_lowest_23 : decode cX2_lowest 23 = .ok (.lload_n 1, 1) := by decide +kernel
theorem dX2_lowest_24 : decode cX2_lowest 24 = .ok (.l2i, 1) := by decide +kernel
theorem dX2_lowest_25 : decode cX2_lowest 25 = .ok (.i2s, 1) := by decide +kernel
theorem dX2_lowest_26 : decode cX2_lowest 26 = .ok (.i2l, 1) := by decide +kernel
theorem dX2_lowest_27 : decode cX2_lowest 27 = .ok (.goto 4, 3) := by decide +kernel
theorem dX2_lowest_30 : decode cX2_lowest 30 = .ok (.lload_n 1, 1) := by decide +kernel
theorem dX2_lowest_31 : decode cX2_lowest 31 = .ok (.lreturn, 1) := by decide +kernel
theorem dX3_init_0 : decode cX3_init 0 = .ok (.aload_n 0, 1) := by decide +kernel
theorem dX3_init_1 : decode cX3_init 1 = .ok (.invokespecial 3, 3) := by decide +kernel
theorem dX3_init_4 : decode cX3_init 4 = .ok (.aload_n 0, 1) := by decide +kernel
theorem dX3_init_5 : decode cX3_init 5 = .ok (.iconst 0, 1) := by decide +kernel
theorem dX3_init_6 : decode cX3_init 6 = .ok (.putfield 9, 3) := by decide +kernel
theorem dX3_init_9 : decode cX3_init 9 = .ok (.aload_n 0, 1) := by decide +kernel
theorem dX3_init_10 : decode cX3_init 10 = .ok (.bipush 16, 2) := by decide +kernel
theorem dX3_init_12 : decode cX3_init 12 = .ok (.newarray .int, 2) := by decide +kernel
theorem dX3_init_14 : decode cX3_init 14 = .ok (.putfield 15, 3) := by decide +kernel
theorem dX3_init_17 : decode cX3_init 17 = .ok (.aload_n 0, 1) := by decide +kernel
theorem dX3_init_18 : decode cX3_init 18 = .ok (.bipush 16, 2) := by decide +kernel
theorem dX3_init_20 : decode cX3_init 20 = .ok (.newarray .int, 2) := by decide +kernel
theorem dX3_init_22 : decode cX3_init 22 = .ok (.putfield 19, 3) := by decide +kernel
theorem dX3_init_25 : decode cX3_init 25 = .ok (.aload_n 0, 1) := by decide +kernel
theorem dX3_init_26 : decode cX3_init 26 = .ok (.bipush 16, 2) := by decide +kernel
theorem dX3_init_28 : decode cX3_init 28 = .ok (.newarray .int, 2) := by decide +kernel
theorem dX3_init_30 : decode cX3_init 30 = .ok (.putfield 22, 3) := by decide +kernel
theorem dX3_init_33 : decode cX3_init 33 = .ok (.aload_n 0, 1) := by decide +kernel
theorem dX3_init_34 : decode cX3_init 34 = .ok (.bipush 16, 2) := by decide +kernel
theorem dX3_init_36 : decode cX3_init 36 = .ok (.newarray .int, 2) := by decide +kernel
theorem dX3_init_38 : decode cX3_init 38 = .ok (.putfield 25, 3) := by decide +kernel
theorem dX3_init_41 : decode cX3_init 41 = .ok (.aload_n 0, 1) := by decide +kernel
theorem dX3_init_42 : decode cX3_init 42 = .ok (.iconst 0, 1) := by decide +kernel
theorem dX3_init_43 : decode cX3_init 43 = .ok (.putfield 28, 3) := by decide +kernel
theorem dX3_init_46 : decode cX3_init 46 = .ok (.aload_n 0, 1) := by decide +kernel
theorem dX3_init_47 : decode cX3_init 47 = .ok (.bipush 8, 2) := by decide +kernel
theorem dX3_init_49 : decode cX3_init 49 = .ok (.newarray .int, 2) := by decide +kernel
theorem dX3_init_51 : decode cX3_init 51 = .ok (.putfield 31, 3) := by decide +kernel
theorem dX3_init_54 : decode cX3_init 54 = .ok (.aload_n 0, 1) := by decide +kernel
theorem dX3_init_55 : decode cX3_init 55 = .ok (.bipush 80, 2) := by decide +kernel
theorem dX3_init_57 : decode cX3_init 57 = .ok (.newarray .int, 2) := by decide +kernel
theorem dX3_init_59 : decode cX3_init 59 = .ok (.putfield 34, 3) := by decide +kernel
theorem dX3_init_62 : decode cX3_init 62 = .ok (.aload_n 0, 1) := by decide +kernel
theorem dX3_init_63 : decode cX3_init 63 = .ok (.iconst 0, 1) := by decide +kernel
theorem dX3_init_64 : decode cX3_init 64 = .ok (.putfield 37, 3) := by decide +kernel
theorem dX3_init_67 : decode cX3_init 67 = .ok (.aload_n 0, 1) := by decide +kernel
theorem dX3_init_68 : decode cX3_init 68 = .ok (.bipush 10, 2) := by decide +kernel
theorem dX3_init_70 : decode cX3_init 70 = .ok (.newarray .int, 2) := by decide +kernel
theorem dX3_init_72 : decode cX3_init 72 = .ok (.putfield 40, 3) := by decide +kernel
theorem dX3_init_75 : decode cX3_init 75 = .ok (.aload_n 0, 1) := by decide +kernel
theorem dX3_init_76 : decode cX3_init 76 = .ok (.iconst 0, 1) := by decide +kernel
theorem dX3_init_77 : decode cX3_init 77 = .ok (.putfield 43, 3) := by decide +kernel
theorem dX3_init_80 : decode cX3_init 80 = .ok (.return_, 1) := by decide +kernel
theorem dX3_hasPart_0 : decode cX3_hasPart 0 = .ok (.iload_n 1, 1) := by decide +kernel
theorem dX3_hasPart_1 : decode cX3_hasPart 1 = .ok (.ifCond .lt 15, 3) := by decide +kernel
theorem dX3_hasPart_4 : decode cX3_hasPart 4 = .ok (.iload_n 1, 1) := by decide +kernel
theorem dX3_hasPart_5 : decode cX3_hasPart 5 = .ok (.aload_n 0, 1) := by decide +kernel
theorem dX3_hasPart_6 : decode cX3_hasPart 6 = .ok (.getfield 9, 3) := by decide +kernel
theorem dX3_hasPart_9 : decode cX3_hasPart 9 = .ok (.if_icmp .ge 7, 3) := by decide +kernel
theorem dX3_hasPart_12 : decode cX3_hasPart 12 = .ok (.iconst 1, 1) := by decide +kernel
theorem dX3_hasPart_13 : decode cX3_hasPart 13 = .ok (.goto 4, 3) := by decide +kernel
theorem dX3_hasPart_16 : decode cX3_hasPart 16 = .ok (.iconst 0, 1) := by decide +kernel
theorem dX3_hasPart_17 : decode cX3_hasPart 17 = .ok (.ireturn, 1) := by decide +kernel
theorem dX3_hasTale_0 : decode cX3_hasTale 0 = .ok (.iload_n 1, 1) := by decide +kernel
theorem dX3_hasTale_1 : decode cX3_hasTale 1 = .ok (.ifCond .lt 15, 3) := by decide +kernel
theorem dX3_hasTale_4 : decode cX3_hasTale 4 = .ok (.iload_n 1, 1) := by decide +kernel
theorem dX3_hasTale_5 : decode cX3_hasTale 5 = .ok (.aload_n 0, 1) := by decide +kernel
theorem dX3_hasTale_6 : decode cX3_hasTale 6 = .ok (.getfield 28, 3) := by decide +kernel
theorem dX3_hasTale_9 : decode cX3_hasTale 9 = .ok (.if_icmp .ge 7, 3) := by decide +kernel
theorem dX3_hasTale_12 : decode cX3_hasTale 12 = .ok (.iconst 1, 1) := by decide +kernel
theorem dX3_hasTale_13 : decode cX3_hasTale 13 = .ok (.goto 4, 3) := by decide +kernel
theorem dX3_hasTale_16 : decode cX3_hasTale 16 = .ok (.iconst 0, 1) := by decide +kernel
theorem dX3_hasTale_17 : decode cX3_hasTale 17 = .ok (.ireturn, 1) := by decide +kernel
theorem dX3_hasHearer_0 : decode cX3_hasHearer 0 = .ok (.iload_n 1, 1) := by decide +kernel
theorem dX3_hasHearer_1 : decode cX3_hasHearer 1 = .ok (.ifCond .lt 15, 3) := by decide +kernel
theorem dX3_hasHearer_4 : decode cX3_hasHearer 4 = .ok (.iload_n 1, 1) := by decide +kernel
theorem dX3_hasHearer_5 : decode cX3_hasHearer 5 = .ok (.aload_n 0, 1) := by decide +kernel
theorem dX3_hasHearer_6 : decode cX3_hasHearer 6 = .ok (.getfield 37, 3) := by decide +kernel
theorem dX3_hasHearer_9 : decode cX3_hasHearer 9 = .ok (.if_icmp .ge 7, 3) := by decide +kernel
theorem dX3_hasHearer_12 : decode cX3_hasHearer 12 = .ok (.iconst 1, 1) := by decide +kernel
theorem dX3_hasHearer_13 : decode cX3_hasHearer 13 = .ok (.goto 4, 3) := by decide +kernel
theorem dX3_hasHearer_16 : decode cX3_hasHearer 16 = .ok (.iconst 0, 1) := by decide +kernel
theorem dX3_hasHearer_17 : decode cX3_hasHearer 17 = .ok (.ireturn, 1) := by decide +kernel
theorem dX3_addPart_0 : decode cX3_addPart 0 = .ok (.aload_n 0, 1) := by decide +kernel
theorem dX3_addPart_1 : decode cX3_addPart 1 = .ok (.getfield 15, 3) := by decide +kernel
theorem dX3_addPart_4 : decode cX3_addPart 4 = .ok (.aload_n 0, 1) := by decide +kernel
theorem dX3_addPart_5 : decode cX3_addPart 5 = .ok (.getfield 9, 3) := by decide +kernel
theorem dX3_addPart_8 : decode cX3_addPart 8 = .ok (.iload_n 1, 1) := by decide +kernel
theorem dX3_addPart_9 : decode cX3_addPart 9 = .ok (.iastore, 1) := by decide +kernel
theorem dX3_addPart_10 : decode cX3_addPart 10 = .ok (.aload_n 0, 1) := by decide +kernel
theorem dX3_addPart_11 : decode cX3_addPart 11 = .ok (.getfield 19, 3) := by decide +kernel
theorem dX3_addPart_14 : decode cX3_addPart 14 = .ok (.aload_n 0, 1) := by decide +kernel
theorem dX3_addPart_15 : decode cX3_addPart 15 = .ok (.getfield 9, 3) := by decide +kernel
theorem dX3_addPart_18 : decode cX3_addPart 18 = .ok (.iload_n 2, 1) := by decide +kernel
theorem dX3_addPart_19 : decode cX3_addPart 19 = .ok (.iastore, 1) := by decide +kernel
theorem dX3_addPart_20 : decode cX3_addPart 20 = .ok (.aload_n 0, 1) := by decide +kernel
theorem dX3_addPart_21 : decode cX3_addPart 21 = .ok (.getfield 22, 3) := by decide +kernel
theorem dX3_addPart_24 : decode cX3_addPart 24 = .ok (.aload_n 0, 1) := by decide +kernel
theorem dX3_addPart_25 : decode cX3_addPart 25 = .ok (.getfield 9, 3) := by decide +kernel
theorem dX3_addPart_28 : decode cX3_addPart 28 = .ok (.iload_n 3, 1) := by decide +kernel
theorem dX3_addPart_29 : decode cX3_addPart 29 = .ok (.iastore, 1) := by decide +kernel
theorem dX3_addPart_30 : decode cX3_addPart 30 = .ok (.aload_n 0, 1) := by decide +kernel
theorem dX3_addPart_31 : decode cX3_addPart 31 = .ok (.getfield 25, 3) := by decide +kernel
theorem dX3_addPart_34 : decode cX3_addPart 34 = .ok (.aload_n 0, 1) := by decide +kernel
theorem dX3_addPart_35 : decode cX3_addPart 35 = .ok (.getfield 9, 3) := by decide +kernel
theorem dX3_addPart_38 : decode cX3_addPart 38 = .ok (.iload 4, 2) := by decide +kernel
theorem dX3_addPart_40 : decode cX3_addPart 40 = .ok (.iastore, 1) := by decide +kernel
theorem dX3_addPart_41 : decode cX3_addPart 41 = .ok (.aload_n 0, 1) := by decide +kernel
theorem dX3_addPart_42 : decode cX3_addPart 42 = .ok (.dup, 1) := by decide +kernel
theorem dX3_addPart_43 : decode cX3_addPart 43 = .ok (.getfield 9, 3) := by decide +kernel
theorem dX3_addPart_46 : decode cX3_addPart 46 = .ok (.dup_x1, 1) := by decide +kernel
theorem dX3_addPart_47 : decode cX3_addPart 47 = .ok (.iconst 1, 1) := by decide +kernel
theorem dX3_addPart_48 : decode cX3_addPart 48 = .ok (.iadd, 1) := by decide +kernel
theorem dX3_addPart_49 : decode cX3_addPart 49 = .ok (.putfield 9, 3) := by decide +kernel
theorem dX3_addPart_52 : decode cX3_addPart 52 = .ok (.ireturn, 1) := by decide +kernel
theorem dX3_addTale_0 : decode cX3_addTale 0 = .ok (.aload_n 0, 1) := by decide +kernel
theorem dX3_addTale_1 : decode cX3_addTale 1 = .ok (.getfield 31, 3) := by decide +kernel
theorem dX3_addTale_4 : decode cX3_addTale 4 = .ok (.aload_n 0, 1) := by decide +kernel
theorem dX3_addTale_5 : decode cX3_addTale 5 = .ok (.getfield 28, 3) := by decide +kernel
theorem dX3_addTale_8 : decode cX3_addTale 8 = .ok (.iconst 0, 1) := by decide +kernel
theorem dX3_addTale_9 : decode cX3_addTale 9 = .ok (.iastore, 1) := by decide +kernel
theorem dX3_addTale_10 : decode cX3_addTale 10 = .ok (.aload_n 0, 1) := by decide +kernel
theorem dX3_addTale_11 : decode cX3_addTale 11 = .ok (.dup, 1) := by decide +kernel
theorem dX3_addTale_12 : decode cX3_addTale 12 = .ok (.getfield 28, 3) := by decide +kernel
theorem dX3_addTale_15 : decode cX3_addTale 15 = .ok (.dup_x1, 1) := by decide +kernel
theorem dX3_addTale_16 : decode cX3_addTale 16 = .ok (.iconst 1, 1) := by decide +kernel
theorem dX3_addTale_17 : decode cX3_addTale 17 = .ok (.iadd, 1) := by decide +kernel
theorem dX3_addTale_18 : decode cX3_addTale 18 = .ok (.putfield 28, 3) := by decide +kernel
theorem dX3_addTale_21 : decode cX3_addTale 21 = .ok (.ireturn, 1) := by decide +kernel
theorem dX3_addTold_0 : decode cX3_addTold 0 = .ok (.aload_n 0, 1) := by decide +kernel
theorem dX3_addTold_1 : decode cX3_addTold 1 = .ok (.getfield 34, 3) := by decide +kernel
theorem dX3_addTold_4 : decode cX3_addTold 4 = .ok (.iload_n 1, 1) := by decide +kernel
theorem dX3_addTold_5 : decode cX3_addTold 5 = .ok (.bipush 10, 2) := by decide +kernel
theorem dX3_addTold_7 : decode cX3_addTold 7 = .ok (.imul, 1) := by decide +kernel
theorem dX3_addTold_8 : decode cX3_addTold 8 = .ok (.aload_n 0, 1) := by decide +kernel
theorem dX3_addTold_9 : decode cX3_addTold 9 = .ok (.getfield 31, 3) := by decide +kernel
theorem dX3_addTold_12 : decode cX3_addTold 12 = .ok (.iload_n 1, 1) := by decide +kernel
theorem dX3_addTold_13 : decode cX3_addTold 13 = .ok (.iaload, 1) := by decide +kernel
theorem dX3_addTold_14 : decode cX3_addTold 14 = .ok (.iadd, 1) := by decide +kernel
theorem dX3_addTold_15 : decode cX3_addTold 15 = .ok (.iload_n 2, 1) := by decide +kernel
theorem dX3_addTold_16 : decode cX3_addTold 16 = .ok (.iastore, 1) := by decide +kernel
theorem dX3_addTold_17 : decode cX3_addTold 17 = .ok (.aload_n 0, 1) := by decide +kernel
theorem dX3_addTold_18 : decode cX3_addTold 18 = .ok (.getfield 31, 3) := by decide +kernel
theorem dX3_addTold_21 : decode cX3_addTold 21 = .ok (.iload_n 1, 1) := by decide +kernel
theorem dX3_addTold_22 : decode cX3_addTold 22 = .ok (.dup2, 1) := by decide +kernel
theorem dX3_addTold_23 : decode cX3_addTold 23 = .ok (.iaload, 1) := by decide +kernel
theorem dX3_addTold_24 : decode cX3_addTold 24 = .ok (.iconst 1, 1) := by decide +kernel
theorem dX3_addTold_25 : decode cX3_addTold 25 = .ok (.iadd, 1) := by decide +kernel
theorem dX3_addTold_26 : decode cX3_addTold 26 = .ok (.dup_x2, 1) := by decide +kernel
theorem dX3_addTold_27 : decode cX3_addTold 27 = .ok (.iastore, 1) := by decide +kernel
theorem dX3_addTold_28 : decode cX3_addTold 28 = .ok (.ireturn, 1) := by decide +kernel
set_option maxRecDepth 20000 in
theorem ggX3_dropTold_X3_toldAt : GoodIn wsX3_dropTold wsX3_toldAt := goodIn_r _ [6, 7, 8, 9, 10, 11, 12, 13, 14, 15, 16, 17, 18] (by decide +kernel) (by decide +kernel)
set_option maxRecDepth 20000 in
theorem gX3_dropTold_X3_toldAt : GoodIn wsX3_dropTold (wsV RX3 46 RX3 yX3_toldAt wsX3_toldAt) := goodIn_app (goodIn_of _ (by decide +kernel)) ggX3_dropTold_X3_toldAt
theorem dX3_dropTold_0 : decode cX3_dropTold 0 = .ok (.aload_n 0, 1) := by decide +kernel
theorem dX3_dropTold_1 : decode cX3_dropTold 1 = .ok (.getfield 31, 3) := by decide +kernel
theorem dX3_dropTold_4 : decode cX3_dropTold 4 = .ok (.iload_n 1, 1) := by decide +kernel
theorem dX3_dropTold_5 : decode cX3_dropTold 5 = .ok (.dup2, 1) := by decide +kernel
theorem dX3_dropTold_6 : decode cX3_dropTold 6 = .ok (.iaload, 1) := by decide +kernel
theorem dX3_dropTold_7 : decode cX3_dropTold 7 = .ok (.iconst 1, 1) := by decide +kernel
theorem dX3_dropTold_8 : decode cX3_dropTold 8 = .ok (.isub, 1) := by decide +kernel
theorem dX3_dropTold_9 : decode cX3_dropTold 9 = .ok (.iastore, 1) := by decide +kernel
theorem dX3_dropTold_10 : decode cX3_dropTold 10 = .ok (.aload_n 0, 1) := by decide +kernel
theorem dX3_dropTold_11 : decode cX3_dropTold 11 = .ok (.iload_n 1, 1) := by decide +kernel
theorem dX3_dropTold_12 : decode cX3_dropTold 12 = .ok (.aload_n 0, 1) := by decide +kernel
theorem dX3_dropTold_13 : decode cX3_dropTold 13 = .ok (.getfield 31, 3) := by decide +kernel
theorem dX3_dropTold_16 : decode cX3_dropTold 16 = .ok (.iload_n 1, 1) := by decide +kernel
theorem dX3_dropTold_17 : decode cX3_dropTold 17 = .ok (.iaload, 1) := by decide +kernel
theorem dX3_dropTold_18 : decode cX3_dropTold 18 = .ok (.invokevirtual 46, 3) := by decide +kernel
theorem dX3_dropTold_21 : decode cX3_dropTold 21 = .ok (.ireturn, 1) := by decide +kernel
theorem dX3_toldAt_0 : decode cX3_toldAt 0 = .ok (.aload_n 0, 1) := by decide +kernel
theorem dX3_toldAt_1 : decode cX3_toldAt 1 = .ok (.getfield 34, 3) := by decide +kernel
theorem dX3_toldAt_4 : decode cX3_toldAt 4 = .ok (.iload_n 1, 1) := by decide +kernel
theorem dX3_toldAt_5 : decode cX3_toldAt 5 = .ok (.bipush 10, 2) := by decide +kernel
theorem dX3_toldAt_7 : decode cX3_toldAt 7 = .ok (.imul, 1) := by decide +kernel
theorem dX3_toldAt_8 : decode cX3_toldAt 8 = .ok (.iload_n 2, 1) := by decide +kernel
theorem dX3_toldAt_9 : decode cX3_toldAt 9 = .ok (.iadd, 1) := by decide +kernel
theorem dX3_toldAt_10 : decode cX3_toldAt 10 = .ok (.iaload, 1) := by decide +kernel
theorem dX3_toldAt_11 : decode cX3_toldAt 11 = .ok (.ireturn, 1) := by decide +kernel
theorem dX3_addHearer_0 : decode cX3_addHearer 0 = .ok (.aload_n 0, 1) := by decide +kernel
theorem dX3_addHearer_1 : decode cX3_addHearer 1 = .ok (.getfield 40, 3) := by decide +kernel
theorem dX3_addHearer_4 : decode cX3_addHearer 4 = .ok (.aload_n 0, 1) := by decide +kernel
theorem dX3_addHearer_5 : decode cX3_addHearer 5 = .ok (.getfield 37, 3) := by decide +kernel
theorem dX3_addHearer_8 : decode cX3_addHearer 8 = .ok (.iload_n 1, 1) := by decide +kernel
theorem dX3_addHearer_9 : decode cX3_addHearer 9 = .ok (.iastore, 1) := by decide +kernel
theorem dX3_addHearer_10 : decode cX3_addHearer 10 = .ok (.aload_n 0, 1) := by decide +kernel
theorem dX3_addHearer_11 : decode cX3_addHearer 11 = .ok (.dup, 1) := by decide +kernel
theorem dX3_addHearer_12 : decode cX3_addHearer 12 = .ok (.getfield 37, 3) := by decide +kernel
theorem dX3_addHearer_15 : decode cX3_addHearer 15 = .ok (.dup_x1, 1) := by decide +kernel
theorem dX3_addHearer_16 : decode cX3_addHearer 16 = .ok (.iconst 1, 1) := by decide +kernel
theorem dX3_addHearer_17 : decode cX3_addHearer 17 = .ok (.iadd, 1) := by decide +kernel
theorem dX3_addHearer_18 : decode cX3_addHearer 18 = .ok (.putfield 37, 3) := by decide +kernel
theorem dX3_addHearer_21 : decode cX3_addHearer 21 = .ok (.ireturn, 1) := by decide +kernel
theorem dX3_ageIn_0 : decode cX3_ageIn 0 = .ok (.bipush 99, 2) := by decide +kernel
theorem dX3_ageIn_2 : decode cX3_ageIn 2 = .ok (.aload_n 0, 1) := by decide +kernel
theorem dX3_ageIn_3 : decode cX3_ageIn 3 = .ok (.getfield 40, 3) := by decide +kernel
theorem dX3_ageIn_6 : decode cX3_ageIn 6 = .ok (.iload_n 1, 1) := by decide +kernel
theorem dX3_ageIn_7 : decode cX3_ageIn 7 = .ok (.iaload, 1) := by decide +kernel
theorem dX3_ageIn_8 : decode cX3_ageIn 8 = .ok (.iload_n 2, 1) := by decide +kernel
theorem dX3_ageIn_9 : decode cX3_ageIn 9 = .ok (.iadd, 1) := by decide +kernel
theorem dX3_ageIn_10 : decode cX3_ageIn 10 = .ok (.invokestatic 50, 3) := by decide +kernel
theorem dX3_ageIn_13 : decode cX3_ageIn 13 = .ok (.ireturn, 1) := by decide +kernel
set_option maxRecDepth 20000 in
theorem ggX3_growOlder_X3_ageIn : GoodIn wsX3_growOlder wsX3_ageIn := goodIn_r _ [8, 2, 9, 10, 11, 12, 13, 14, 15, 16, 17, 18, 19, 20, 21, 22, 23] (by decide +kernel) (by decide +kernel)
set_option maxRecDepth 20000 in
theorem gX3_growOlder_X3_ageIn : GoodIn wsX3_growOlder (wsV RX3 55 RX3 yX3_ageIn wsX3_ageIn) := goodIn_app (goodIn_of _ (by decide +kernel)) ggX3_growOlder_X3_ageIn
theorem dX3_growOlder_0 : decode cX3_growOlder 0 = .ok (.iconst 0, 1) := by decide +kernel
theorem dX3_growOlder_1 : decode cX3_growOlder 1 = .ok (.istore_n 2, 1) := by decide +kernel
theorem dX3_growOlder_2 : decode cX3_growOlder 2 = .ok (.iload_n 2, 1) := by decide +kernel
theorem dX3_growOlder_3 : decode cX3_growOlder 3 = .ok (.aload_n 0, 1) := by decide +kernel
theorem dX3_growOlder_4 : decode cX3_growOlder 4 = .ok (.getfield 37, 3) := by decide +kernel
theorem dX3_growOlder_7 : decode cX3_growOlder 7 = .ok (.if_icmp .ge 21, 3) := by decide +kernel
theorem dX3_growOlder_10 : decode cX3_growOlder 10 = .ok (.aload_n 0, 1) := by decide +kernel
theorem dX3_growOlder_11 : decode cX3_growOlder 11 = .ok (.getfield 40, 3) := by decide +kernel
theorem dX3_growOlder_14 : decode cX3_growOlder 14 = .ok (.iload_n 2, 1) := by decide +kernel
theorem dX3_growOlder_15 : decode cX3_growOlder 15 = .ok (.aload_n 0, 1) := by decide +kernel
theorem dX3_growOlder_16 : decode cX3_growOlder 16 = .ok (.iload_n 2, 1) := by decide +kernel
theorem dX3_growOlder_17 : decode cX3_growOlder 17 = .ok (.iload_n 1, 1) := by decide +kernel
theorem dX3_growOlder_18 : decode cX3_growOlder 18 = .ok (.invokevirtual 55, 3) := by decide +kernel
theorem dX3_growOlder_21 : decode cX3_growOlder 21 = .ok (.iastore, 1) := by decide +kernel
theorem dX3_growOlder_22 : decode cX3_growOlder 22 = .ok (.iinc 2 1, 3) := by decide +kernel
theorem dX3_growOlder_25 : decode cX3_growOlder 25 = .ok (.goto (-23), 3) := by decide +kernel
theorem dX3_growOlder_28 : decode cX3_growOlder 28 = .ok (.aload_n 0, 1) := by decide +kernel
theorem dX3_growOlder_29 : decode cX3_growOlder 29 = .ok (.dup, 1) := by decide +kernel
theorem dX3_growOlder_30 : decode cX3_growOlder 30 = .ok (.getfield 43, 3) := by decide +kernel
theorem dX3_growOlder_33 : decode cX3_growOlder 33 = .ok (.iload_n 1, 1) := by decide +kernel
theorem dX3_growOlder_34 : decode cX3_growOlder 34 = .ok (.iadd, 1) := by decide +kernel
theorem dX3_growOlder_35 : decode cX3_growOlder 35 = .ok (.putfield 43, 3) := by decide +kernel
theorem dX3_growOlder_38 : decode cX3_growOlder 38 = .ok (.return_, 1) := by decide +kernel
theorem dX3_nearTo_0 : decode cX3_nearTo 0 = .ok (.iconst 0, 1) := by decide +kernel
theorem dX3_nearTo_1 : decode cX3_nearTo 1 = .ok (.istore_n 3, 1) := by decide +kernel
theorem dX3_nearTo_2 : decode cX3_nearTo 2 = .ok (.iconst 0, 1) := by decide +kernel
theorem dX3_nearTo_3 : decode cX3_nearTo 3 = .ok (.istore 4, 2) := by decide +kernel
theorem dX3_nearTo_5 : decode cX3_nearTo 5 = .ok (.iload 4, 2) := by decide +kernel
theorem dX3_nearTo_7 : decode cX3_nearTo 7 = .ok (.aload_n 0, 1) := by decide +kernel
theorem dX3_nearTo_8 : decode cX3_nearTo 8 = .ok (.getfield 37, 3) := by decide +kernel
theorem dX3_nearTo_11 : decode cX3_nearTo 11 = .ok (.if_icmp .ge 66, 3) := by decide +kernel
theorem dX3_nearTo_14 : decode cX3_nearTo 14 = .ok (.iconst 0, 1) := by decide +kernel
theorem dX3_nearTo_15 : decode cX3_nearTo 15 = .ok (.istore 5, 2) := by decide +kernel
