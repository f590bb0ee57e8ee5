theorem dX6_blanks_26 : decode cX6_blanks 26 = .ok (.return_, 1) := by decide +kernel
theorem dX6_fails_0 : decode cX6_fails 0 = .ok (.aload_n 0, 1) := by decide +kernel
theorem dX6_fails_1 : decode cX6_fails 1 = .ok (.aload_n 0, 1) := by decide +kernel
theorem dX6_fails_2 : decode cX6_fails 2 = .ok (.getfield 180, 3) := by decide +kernel
theorem dX6_fails_5 : decode cX6_fails 5 = .ok (.ifCond .ge 10, 3) := by decide +kernel
theorem dX6_fails_8 : decode cX6_fails 8 = .ok (.aload_n 0, 1) := by decide +kernel
theorem dX6_fails_9 : decode cX6_fails 9 = .ok (.getfield 174, 3) := by decide +kernel
theorem dX6_fails_12 : decode cX6_fails 12 = .ok (.goto 7, 3) := by decide +kernel
theorem dX6_fails_15 : decode cX6_fails 15 = .ok (.aload_n 0, 1) := by decide +kernel
theorem dX6_fails_16 : decode cX6_fails 16 = .ok (.getfield 180, 3) := by decide +kernel
theorem dX6_fails_19 : decode cX6_fails 19 = .ok (.putfield 180, 3) := by decide +kernel
theorem dX6_fails_22 : decode cX6_fails 22 = .ok (.iconst 0, 1) := by decide +kernel
theorem dX6_fails_23 : decode cX6_fails 23 = .ok (.ireturn, 1) := by decide +kernel
set_option maxRecDepth 20000 in
theorem ggX6_isLetter_X6_in : GoodIn wsX6_isLetter wsX6_in := goodIn_r _ [4] (by decide +kernel) (by decide +kernel)
set_option maxRecDepth 20000 in
theorem gX6_isLetter_X6_in : GoodIn wsX6_isLetter (va_wsS RX6 57 yX6_in wsX6_in) := goodIn_app (goodIn_of _ (by decide +kernel)) ggX6_isLetter_X6_in
theorem dX6_isLetter_0 : decode cX6_isLetter 0 = .ok (.iload_n 0, 1) := by decide +kernel
theorem dX6_isLetter_1 : decode cX6_isLetter 1 = .ok (.bipush 97, 2) := by decide +kernel
theorem dX6_isLetter_3 : decode cX6_isLetter 3 = .ok (.bipush 122, 2) := by decide +kernel
theorem dX6_isLetter_5 : decode cX6_isLetter 5 = .ok (.invokestatic 57, 3) := by decide +kernel
theorem dX6_isLetter_8 : decode cX6_isLetter 8 = .ok (.ireturn, 1) := by decide +kernel
set_option maxRecDepth 20000 in
theorem ggX6_isDigit_X6_in : GoodIn wsX6_isDigit wsX6_in := goodIn_r _ [4] (by decide +kernel) (by decide +kernel)
set_option maxRecDepth 20000 in
theorem gX6_isDigit_X6_in : GoodIn wsX6_isDigit (va_wsS RX6 57 yX6_in wsX6_in) := goodIn_app (goodIn_of _ (by decide +kernel)) ggX6_isDigit_X6_in
theorem dX6_isDigit_0 : decode cX6_isDigit 0 = .ok (.iload_n 0, 1) := by decide +kernel
theorem dX6_isDigit_1 : decode cX6_isDigit 1 = .ok (.bipush 48, 2) := by decide +kernel
theorem dX6_isDigit_3 : decode cX6_isDigit 3 = .ok (.bipush 57, 2) := by decide +kernel
theorem dX6_isDigit_5 : decode cX6_isDigit 5 = .ok (.invokestatic 57, 3) := by decide +kernel
theorem dX6_isDigit_8 : decode cX6_isDigit 8 = .ok (.ireturn, 1) := by decide +kernel
set_option maxRecDepth 20000 in
theorem ggX6_wordEnd_X6_byteAt : GoodIn wsX6_wordEnd wsX6_byteAt := goodIn_r _ [6, 7, 8, 15, 16, 17, 18, 19, 20, 21, 22, 23, 24, 25, 26, 27, 28, 29, 30, 31, 32, 33, 34] (by decide +kernel) (by decide +kernel)
set_option maxRecDepth 20000 in
theorem gX6_wordEnd_X6_byteAt : GoodIn wsX6_wordEnd (wsV RX6 177 RX6 yX6_byteAt wsX6_byteAt) := goodIn_app (goodIn_of _ (by decide +kernel)) ggX6_wordEnd_X6_byteAt
set_option maxRecDepth 20000 in
theorem ggX6_wordEnd_X6_isLetter : GoodIn wsX6_wordEnd wsX6_isLetter := goodIn_r _ [11, 12, 13, 5, 14] (by decide +kernel) (by decide +kernel)
set_option maxRecDepth 20000 in
theorem gX6_wordEnd_X6_isLetter : GoodIn wsX6_wordEnd (va_wsS RX6 183 yX6_isLetter wsX6_isLetter) := goodIn_app (goodIn_of _ (by decide +kernel)) ggX6_wordEnd_X6_isLetter
theorem dX6_wordEnd_0 : decode cX6_wordEnd 0 = .ok (.aload_n 0, 1) := by decide +kernel
theorem dX6_wordEnd_1 : decode cX6_wordEnd 1 = .ok (.getfield 174, 3) := by decide +kernel
theorem dX6_wordEnd_4 : decode cX6_wordEnd 4 = .ok (.istore_n 1, 1) := by decide +kernel
theorem dX6_wordEnd_5 : decode cX6_wordEnd 5 = .ok (.aload_n 0, 1) := by decide +kernel
theorem dX6_wordEnd_6 : decode cX6_wordEnd 6 = .ok (.iload_n 1, 1) := by decide +kernel
theorem dX6_wordEnd_7 : decode cX6_wordEnd 7 = .ok (.invokevirtual 177, 3) := by decide +kernel
theorem dX6_wordEnd_10 : decode cX6_wordEnd 10 = .ok (.invokestatic 183, 3) := by decide +kernel
theorem dX6_wordEnd_13 : decode cX6_wordEnd 13 = .ok (.ifCond .eq 9, 3) := by decide +kernel
theorem dX6_wordEnd_16 : decode cX6_wordEnd 16 = .ok (.iinc 1 1, 3) := by decide +kernel
theorem dX6_wordEnd_19 : decode cX6_wordEnd 19 = .ok (.goto (-14), 3) := by decide +kernel
theorem dX6_wordEnd_22 : decode cX6_wordEnd 22 = .ok (.iload_n 1, 1) := by decide +kernel
theorem dX6_wordEnd_23 : decode cX6_wordEnd 23 = .ok (.ireturn, 1) := by decide +kernel
set_option maxRecDepth 20000 in
theorem ggX6_isWord_X6_blanks : GoodIn wsX6_isWord wsX6_blanks := goodIn_r _ [6, 1, 7, 8, 9, 5, 10, 11, 12, 72, 73, 74, 75, 76, 77, 78, 79, 80, 81, 82, 83, 84, 85, 86, 87, 88, 89, 90, 91] (by decide +kernel) (by decide +kernel)
set_option maxRecDepth 20000 in
theorem gX6_isWord_X6_blanks : GoodIn wsX6_isWord (wsV RX6 186 RX6 yX6_blanks wsX6_blanks) := goodIn_app (goodIn_of _ (by decide +kernel)) ggX6_isWord_X6_blanks
set_option maxRecDepth 20000 in
theorem ggX6_isWord_X6_wordEnd : GoodIn wsX6_isWord wsX6_wordEnd := goodIn_r _ [16, 1, 7, 8, 9, 5, 10, 11, 12, 17, 18, 19, 20, 21, 22, 72, 73, 74, 75, 76, 77, 78, 79, 80, 81, 82, 83, 84, 85, 86, 87, 88, 89, 90, 91] (by decide +kernel) (by decide +kernel)
set_option maxRecDepth 20000 in
theorem gX6_isWord_X6_wordEnd : GoodIn wsX6_isWord (wsV RX6 189 RX6 yX6_wordEnd wsX6_wordEnd) := goodIn_app (goodIn_of _ (by decide +kernel)) ggX6_isWord_X6_wordEnd
set_option maxRecDepth 20000 in
theorem ggX6_isWord_J0_length_8abf5 : GoodIn wsX6_isWord wsJ0_length_8abf5 := goodIn_r _ [27, 28, 29, 30, 31, 26, 32, 33, 34] (by decide +kernel) (by decide +kernel)
set_option maxRecDepth 20000 in
theorem gX6_isWord_J0_length_8abf5 : GoodIn wsX6_isWord (wsV RX6 193 RJ0 yJ0_length_8abf5 wsJ0_length_8abf5) := goodIn_app (goodIn_of _ (by decide +kernel)) ggX6_isWord_J0_length_8abf5
set_option maxRecDepth 20000 in
theorem ggX6_isWord_X6_byteAt : GoodIn wsX6_isWord wsX6_byteAt := goodIn_r _ [10, 11, 12, 72, 73, 74, 75, 76, 77, 78, 79, 80, 81, 82, 83, 84, 85, 86, 87, 88, 89, 90, 91] (by decide +kernel) (by decide +kernel)
set_option maxRecDepth 20000 in
theorem gX6_isWord_X6_byteAt : GoodIn wsX6_isWord (wsV RX6 177 RX6 yX6_byteAt wsX6_byteAt) := goodIn_app (goodIn_of _ (by decide +kernel)) ggX6_isWord_X6_byteAt
set_option maxRecDepth 20000 in
theorem ggX6_isWord_J0_charAt_5068e : GoodIn wsX6_isWord wsJ0_charAt_5068e := goodIn_r _ [38, 28, 39, 40, 41, 26, 42, 33, 34, 43, 44, 45, 46, 47, 48, 49, 50, 51, 52, 53, 54, 55, 56, 57, 58, 59, 60, 61, 62, 63, 64, 65, 66, 67, 68, 69, 70, 71] (by decide +kernel) (by decide +kernel)
set_option maxRecDepth 20000 in
theorem gX6_isWord_J0_charAt_5068e : GoodIn wsX6_isWord (wsV RX6 198 RJ0 yJ0_charAt_5068e wsJ0_charAt_5068e) := goodIn_app (goodIn_of _ (by decide +kernel)) ggX6_isWord_J0_charAt_5068e
theorem dX6_isWord_0 : decode cX6_isWord 0 = .ok (.aload_n 0, 1) := by decide +kernel
theorem dX6_isWord_1 : decode cX6_isWord 1 = .ok (.invokevirtual 186, 3) := by decide +kernel
theorem dX6_isWord_4 : decode cX6_isWord 4 = .ok (.aload_n 0, 1) := by decide +kernel
theorem dX6_isWord_5 : decode cX6_isWord 5 = .ok (.invokevirtual 189, 3) := by decide +kernel
theorem dX6_isWord_8 : decode cX6_isWord 8 = .ok (.aload_n 0, 1) := by decide +kernel
theorem dX6_isWord_9 : decode cX6_isWord 9 = .ok (.getfield 174, 3) := by decide +kernel
theorem dX6_isWord_12 : decode cX6_isWord 12 = .ok (.isub, 1) := by decide +kernel
theorem dX6_isWord_13 : decode cX6_isWord 13 = .ok (.aload_n 1, 1) := by decide +kernel
theorem dX6_isWord_14 : decode cX6_isWord 14 = .ok (.invokevirtual 193, 3) := by decide +kernel
theorem dX6_isWord_17 : decode cX6_isWord 17 = .ok (.if_icmp .ne 7, 3) := by decide +kernel
theorem dX6_isWord_20 : decode cX6_isWord 20 = .ok (.iconst 1, 1) := by decide +kernel
theorem dX6_isWord_21 : decode cX6_isWord 21 = .ok (.goto 4, 3) := by decide +kernel
theorem dX6_isWord_24 : decode cX6_isWord 24 = .ok (.iconst 0, 1) := by decide +kernel
theorem dX6_isWord_25 : decode cX6_isWord 25 = .ok (.istore_n 2, 1) := by decide +kernel
theorem dX6_isWord_26 : decode cX6_isWord 26 = .ok (.iconst 0, 1) := by decide +kernel
theorem dX6_isWord_27 : decode cX6_isWord 27 = .ok (.istore_n 3, 1) := by decide +kernel
theorem dX6_isWord_28 : decode cX6_isWord 28 = .ok (.iload_n 3, 1) := by decide +kernel
theorem dX6_isWord_29 : decode cX6_isWord 29 = .ok (.aload_n 1, 1) := by decide +kernel
theorem dX6_isWord_30 : decode cX6_isWord 30 = .ok (.invokevirtual 193, 3) := by decide +kernel
theorem dX6_isWord_33 : decode cX6_isWord 33 = .ok (.if_icmp .ge 37, 3) := by decide +kernel
theorem dX6_isWord_36 : decode cX6_isWord 36 = .ok (.iload_n 2, 1) := by decide +kernel
theorem dX6_isWord_37 : decode cX6_isWord 37 = .ok (.ifCond .eq 33, 3) := by decide +kernel
theorem dX6_isWord_40 : decode cX6_isWord 40 = .ok (.aload_n 0, 1) := by decide +kernel
theorem dX6_isWord_41 : decode cX6_isWord 41 = .ok (.aload_n 0, 1) := by decide +kernel
theorem dX6_isWord_42 : decode cX6_isWord 42 = .ok (.getfield 174, 3) := by decide +kernel
theorem dX6_isWord_45 : decode cX6_isWord 45 = .ok (.iload_n 3, 1) := by decide +kernel
theorem dX6_isWord_46 : decode cX6_isWord 46 = .ok (.iadd, 1) := by decide +kernel
theorem dX6_isWord_47 : decode cX6_isWord 47 = .ok (.invokevirtual 177, 3) := by decide +kernel
theorem dX6_isWord_50 : decode cX6_isWord 50 = .ok (.aload_n 1, 1) := by decide +kernel
theorem dX6_isWord_51 : decode cX6_isWord 51 = .ok (.iload_n 3, 1) := by decide +kernel
theorem dX6_isWord_52 : decode cX6_isWord 52 = .ok (.invokevirtual 198, 3) := by decide +kernel
theorem dX6_isWord_55 : decode cX6_isWord 55 = .ok (.if_icmp .ne 7, 3) := by decide +kernel
theorem dX6_isWord_58 : decode cX6_isWord 58 = .ok (.iconst 1, 1) := by decide +kernel
theorem dX6_isWord_59 : decode cX6_isWord 59 = .ok (.goto 4, 3) := by decide +kernel
theorem dX6_isWord_62 : decode cX6_isWord 62 = .ok (.iconst 0, 1) := by decide +kernel
theorem dX6_isWord_63 : decode cX6_isWord 63 = .ok (.istore_n 2, 1) := by decide +kernel
theorem dX6_isWord_64 : decode cX6_isWord 64 = .ok (.iinc 3 1, 3) := by decide +kernel
theorem dX6_isWord_67 : decode cX6_isWord 67 = .ok (.goto (-39), 3) := by decide +kernel
theorem dX6_isWord_70 : decode cX6_isWord 70 = .ok (.iload_n 2, 1) := by decide +kernel
theorem dX6_isWord_71 : decode cX6_isWord 71 = .ok (.ireturn, 1) := by decide +kernel
set_option maxRecDepth 20000 in
theorem ggX6_may_X6_isWord : GoodIn wsX6_may wsX6_isWord := goodIn_r _ [7, 2, 8, 9, 10, 6, 11, 12, 13, 14, 15, 16, 17, 18, 19, 20, 21, 22, 23, 24, 25, 26, 27, 28, 29, 30, 31, 32, 33, 34, 35, 36, 37, 38, 39, 40, 41, 42, 43, 44, 45, 46, 47, 48, 49, 50, 51, 52, 53, 54, 55, 56, 57, 58, 59, 60, 61, 62, 63, 64, 65, 66, 67, 68, 69, 70, 71, 72, 73, 74, 75, 76, 77, 78, 79, 80, 81, 82, 83, 84, 85, 86, 87, 88, 89, 90, 91, 92, 93, 94, 95, 96] (by decide +kernel) (by decide +kernel)
set_option maxRecDepth 20000 in
theorem gX6_may_X6_isWord : GoodIn wsX6_may (wsV RX6 202 RX6 yX6_isWord wsX6_isWord) := goodIn_app (goodIn_of _ (by decide +kernel)) ggX6_may_X6_isWord
set_option maxRecDepth 20000 in
theorem ggX6_may_J0_length_8abf5 : GoodIn wsX6_may wsJ0_length_8abf5 := goodIn_r _ [32, 33, 34, 35, 36, 31, 37, 38, 39] (by decide +kernel) (by decide +kernel)
set_option maxRecDepth 20000 in
theorem gX6_may_J0_length_8abf5 : GoodIn wsX6_may (wsV RX6 193 RJ0 yJ0_length_8abf5 wsJ0_length_8abf5) := goodIn_app (goodIn_of _ (by decide +kernel)) ggX6_may_J0_length_8abf5
theorem dX6_may_0 : decode cX6_may 0 = .ok (.aload_n 0, 1) := by decide +kernel
theorem dX6_may_1 : decode cX6_may 1 = .ok (.getfield 180, 3) := by decide +kernel
theorem dX6_may_4 : decode cX6_may 4 = .ok (.ifCond .ge 15, 3) := by decide +kernel
theorem dX6_may_7 : decode cX6_may 7 = .ok (.aload_n 0, 1) := by decide +kernel
theorem dX6_may_8 : decode cX6_may 8 = .ok (.aload_n 1, 1) := by decide +kernel
theorem dX6_may_9 : decode cX6_may 9 = .ok (.invokevirtual 202, 3) := by decide +kernel
theorem dX6_may_12 : decode cX6_may 12 = .ok (.ifCond .eq 7, 3) := by decide +kernel
theorem dX6_may_15 : decode cX6_may 15 = .ok (.iconst 1, 1) := by decide +kernel
theorem dX6_may_16 : decode cX6_may 16 = .ok (.goto 4, 3) := by decide +kernel
theorem dX6_may_19 : decode cX6_may 19 = .ok (.iconst 0, 1) := by decide +kernel
theorem dX6_may_20 : decode cX6_may 20 = .ok (.istore_n 2, 1) := by decide +kernel
theorem dX6_may_21 : decode cX6_may 21 = .ok (.aload_n 0, 1) := by decide +kernel
theorem dX6_may_22 : decode cX6_may 22 = .ok (.dup, 1) := by decide +kernel
theorem dX6_may_23 : decode cX6_may 23 = .ok (.getfield 174, 3) := by decide +kernel
theorem dX6_may_26 : decode cX6_may 26 = .ok (.iload_n 2, 1) := by decide +kernel
theorem dX6_may_27 : decode cX6_may 27 = .ok (.ifCond .eq 10, 3) := by decide +kernel
theorem dX6_may_30 : decode cX6_may 30 = .ok (.aload_n 1, 1) := by decide +kernel
theorem dX6_may_31 : decode cX6_may 31 = .ok (.invokevirtual 193, 3) := by decide +kernel
theorem dX6_may_34 : decode cX6_may 34 = .ok (.goto 4, 3) := by decide +kernel
theorem dX6_may_37 : decode cX6_may 37 = .ok (.iconst 0, 1) := by decide +kernel
theorem dX6_may_38 : decode cX6_may 38 = .ok (.iadd, 1) := by decide +kernel
theorem dX6_may_39 : decode cX6_may 39 = .ok (.putfield 174, 3) := by decide +kernel
theorem dX6_may_42 : decode cX6_may 42 = .ok (.iload_n 2, 1) := by decide +kernel
theorem dX6_may_43 : decode cX6_may 43 = .ok (.ireturn, 1) := by decide +kernel
set_option maxRecDepth 20000 in
theorem ggX6_must_X6_may : GoodIn wsX6_must wsX6_may := goodIn_r _ [5, 6, 7, 8, 9, 10, 4, 11, 12, 13, 14, 15, 16, 17, 18, 19, 20, 21, 22, 23, 24, 25, 26, 27, 28, 29, 30, 31, 32, 33, 34, 35, 36, 37, 38, 39, 40, 41, 42, 43, 44, 45, 46, 47, 48, 49, 50, 51, 52, 53, 54, 55, 56, 57, 58, 59, 60, 61, 62, 63, 64, 65, 66, 67, 68, 69, 70, 71, 72, 73, 74, 75, 76, 77, 78, 79, 80, 85, 86, 87, 88, 89, 90, 91, 92, 93, 94, 95, 96, 97, 98, 99, 100, 101, 102, 103, 104] (by decide +kernel) (by decide +kernel)
set_option maxRecDepth 20000 in
theorem gX6_must_X6_may : GoodIn wsX6_must (wsV RX6 206 RX6 yX6_may wsX6_may) := goodIn_app (goodIn_of _ (by decide +kernel)) ggX6_must_X6_may
set_option maxRecDepth 20000 in
theorem ggX6_must_X6_fails : GoodIn wsX6_must wsX6_fails := goodIn_r _ [84, 6, 7, 85, 86, 87, 88, 89, 90, 91, 92, 93, 94, 95, 96, 97, 98, 99, 100, 101, 102, 103, 104] (by decide +kernel) (by decide +kernel)
set_option maxRecDepth 20000 in
theorem gX6_must_X6_fails : GoodIn wsX6_must (wsV RX6 209 RX6 yX6_fails wsX6_fails) := goodIn_app (goodIn_of _ (by decide +kernel)) ggX6_must_X6_fails
theorem dX6_must_0 : decode cX6_must 0 = .ok (.aload_n 0, 1) := by decide +kernel
theorem dX6_must_1 : decode cX6_must 1 = .ok (.aload_n 1, 1) := by decide +kernel
theorem dX6_must_2 : decode cX6_must 2 = .ok (.invokevirtual 206, 3) := by decide +kernel
theorem dX6_must_5 : decode cX6_must 5 = .ok (.ifCond .ne 10, 3) := by decide +kernel
theorem dX6_must_8 : decode cX6_must 8 = .ok (.aload_n 0, 1) := by decide +kernel
theorem dX6_must_9 : decode cX6_must 9 = .ok (.invokevirtual 209, 3) := by decide +kernel
theorem dX6_must_12 : decode cX6_must 12 = .ok (.ifCond .eq 7, 3) := by decide +kernel
theorem dX6_must_15 : decode cX6_must 15 = .ok (.iconst 1, 1) := by decide +kernel
theorem dX6_must_16 : decode cX6_must 16 = .ok (.goto 4, 3) := by decide +kernel
theorem dX6_must_19 : decode cX6_must 19 = .ok (.iconst 0, 1) := by decide +kernel
theorem dX6_must_20 : decode cX6_must 20 = .ok (.ireturn, 1) := by decide +kernel
set_option maxRecDepth 20000 in
theorem ggX6_number_X6_blanks : GoodIn wsX6_number wsX6_blanks := goodIn_r _ [15, 2, 16, 17, 18, 14, 19, 20, 21, 32, 33, 34, 35, 36, 37, 38, 39, 40, 41, 42, 43, 44, 45, 46, 47, 48, 49, 50, 51] (by decide +kernel) (by decide +kernel)
set_option maxRecDepth 20000 in
theorem gX6_number_X6_blanks : GoodIn wsX6_number (wsV RX6 186 RX6 yX6_blanks wsX6_blanks) := goodIn_app (goodIn_of _ (by decide +kernel)) ggX6_number_X6_blanks
set_option maxRecDepth 20000 in
theorem ggX6_number_X6_byteAt : GoodIn wsX6_number wsX6_byteAt := goodIn_r _ [19, 20, 21, 32, 33, 34, 35, 36, 37, 38, 39, 40, 41, 42, 43, 44, 45, 46, 47, 48, 49, 50, 51] (by decide +kernel) (by decide +kernel)
set_option maxRecDepth 20000 in
theorem gX6_number_X6_byteAt : GoodIn wsX6_number (wsV RX6 177 RX6 yX6_byteAt wsX6_byteAt) := goodIn_app (goodIn_of _ (by decide +kernel)) ggX6_number_X6_byteAt
set_option maxRecDepth 20000 in
theorem ggX6_number_X6_isDigit : GoodIn wsX6_number wsX6_isDigit := goodIn_r _ [24, 25, 26, 14, 27] (by decide +kernel) (by decide +kernel)
set_option maxRecDepth 20000 in
theorem gX6_number_X6_isDigit : GoodIn wsX6_number (va_wsS RX6 213 yX6_isDigit wsX6_isDigit) := goodIn_app (goodIn_of _ (by decide +kernel)) ggX6_number_X6_isDigit
set_option maxRecDepth 20000 in
theorem ggX6_number_X6_fails : GoodIn wsX6_number wsX6_fails := goodIn_r _ [31, 1, 2, 32, 33, 34, 35, 36, 37, 38, 39, 40, 41, 42, 43, 44, 45, 46, 47, 48, 49, 50, 51] (by decide +kernel) (by decide +kernel)
set_option maxRecDepth 20000 in
theorem gX6_number_X6_fails : GoodIn wsX6_number (wsV RX6 209 RX6 yX6_fails wsX6_fails) := goodIn_app (goodIn_of _ (by decide +kernel)) ggX6_number_X6_fails
theorem dX6_number_0 : decode cX6_number 0 = .ok (.aload_n 0, 1) := by decide +kernel
theorem dX6_number_1 : decode cX6_number 1 = .ok (.invokevirtual 186, 3) := by decide +kernel
theorem dX6_number_4 : decode cX6_number 4 = .ok (.aload_n 0, 1) := by decide +kernel
theorem dX6_number_5 : decode cX6_number 5 = .ok (.getfield 180, 3) := by decide +kernel
theorem dX6_number_8 : decode cX6_number 8 = .ok (.ifCond .ge 17, 3) := by decide +kernel
theorem dX6_number_11 : decode cX6_number 11 = .ok (.aload_n 0, 1) := by decide +kernel
theorem dX6_number_12 : decode cX6_number 12 = .ok (.aload_n 0, 1) := by decide +kernel
theorem dX6_number_13 : decode cX6_number 13 = .ok (.getfield 174, 3) := by decide +kernel
theorem dX6_number_16 : decode cX6_number 16 = .ok (.invokevirtual 177, 3) := by decide +kernel
theorem dX6_number_19 : decode cX6_number 19 = .ok (.invokestatic 213, 3) := by decide +kernel
theorem dX6_number_22 : decode cX6_number 22 = .ok (.ifCond .ne 8, 3) := by decide +kernel
theorem dX6_number_25 : decode cX6_number 25 = .ok (.aload_n 0, 1) := by decide +kernel
theorem dX6_number_26 : decode cX6_number 26 = .ok (.invokevirtual 209, 3) := by decide +kernel
theorem dX6_number_29 : decode cX6_number 29 = .ok (.ireturn, 1) := by decide +kernel
theorem dX6_number_30 : decode cX6_number 30 = .ok (.lconst 0, 1) := by decide +kernel
theorem dX6_number_31 : decode cX6_number 31 = .ok (.lstore_n 3, 1) := by decide +kernel
theorem dX6_number_32 : decode cX6_number 32 = .ok (.aload_n 0, 1) := by decide +kernel
theorem dX6_number_33 : decode cX6_number 33 = .ok (.getfield 174, 3) := by decide +kernel
theorem dX6_number_36 : decode cX6_number 36 = .ok (.istore 5, 2) := by decide +kernel
theorem dX6_number_38 : decode cX6_number 38 = .ok (.aload_n 0, 1) := by decide +kernel
theorem dX6_number_39 : decode cX6_number 39 = .ok (.iload 5, 2) := by decide +kernel
theorem dX6_number_41 : decode cX6_number 41 = .ok (.invokevirtual 177, 3) := by decide +kernel
theorem dX6_number_44 : decode cX6_number 44 = .ok (.invokestatic 213, 3) := by decide +kernel
theorem dX6_number_47 : decode cX6_number 47 = .ok (.ifCond .eq 33, 3) := by decide +kernel
theorem dX6_number_50 : decode cX6_number 50 = .ok (.ldc2_w 216, 3) := by decide +kernel
theorem dX6_number_53 : decode cX6_number 53 = .ok (.ldc2_w 218, 3) := by decide +kernel
theorem dX6_number_56 : decode cX6_number 56 = .ok (.lload_n 3, 1) := by decide +kernel
theorem dX6_number_57 : decode cX6_number 57 = .ok (.lmul, 1) := by decide +kernel
theorem dX6_number_58 : decode cX6_number 58 = .ok (.aload_n 0, 1) := by decide +kernel
theorem dX6_number_59 : decode cX6_number 59 = .ok (.iload 5, 2) := by decide +kernel
theorem dX6_number_61 : decode cX6_number 61 = .ok (.invokevirtual 177, 3) := by decide +kernel
theorem dX6_number_64 : decode cX6_number 64 = .ok (.i2l, 1) := by decide +kernel
theorem dX6_number_65 : decode cX6_number 65 = .ok (.ladd, 1) := by decide +kernel
theorem dX6_number_66 : decode cX6_number 66 = .ok (.ldc2_w 220, 3) := by decide +kernel
theorem dX6_number_69 : decode cX6_number 69 = .ok (.lsub, 1) := by decide +kernel
theorem dX6_number_70 : decode cX6_number 70 = .ok (.invokestatic 222, 3) := by decide +kernel
theorem dX6_number_73 : decode cX6_number 73 = .ok (.lstore_n 3, 1) := by decide +kernel
theorem dX6_number_74 : decode cX6_number 74 = .ok (.iinc 5 1, 3) := by decide +kernel
theorem dX6_number_77 : decode cX6_number 77 = .ok (.goto (-39), 3) := by decide +kernel
theorem dX6_number_80 : decode cX6_number 80 = .ok (.lload_n 3, 1) := by decide +kernel
theorem dX6_number_81 : decode cX6_number 81 = .ok (.iload_n 1, 1) := by decide +kernel
theorem dX6_number_82 : decode cX6_number 82 = .ok (.i2l, 1) := by decide +kernel
theorem dX6_number_83 : decode cX6_number 83 = .ok (.lcmp, 1) := by decide +kernel
theorem dX6_number_84 : decode cX6_number 84 = .ok (.ifCond .lt 10, 3) := by decide +kernel
theorem dX6_number_87 : decode cX6_number 87 = .ok (.lload_n 3, 1) := by decide +kernel
theorem dX6_number_88 : decode cX6_number 88 = .ok (.iload_n 2, 1) := by decide +kernel
theorem dX6_number_89 : decode cX6_number 89 = .ok (.i2l, 1) := by decide +kernel
theorem dX6_number_90 : decode cX6_number 90 = .ok (.lcmp, 1) := by decide +kernel
theorem dX6_number_91 : decode cX6_number 91 = .ok (.ifCond .le 8, 3) := by decide +kernel
theorem dX6_number_94 : decode cX6_number 94 = .ok (.aload_n 0, 1) := by decide +kernel
theorem dX6_number_95 : decode cX6_number 95 = .ok (.invokevirtual 209, 3) := by decide +kernel
theorem dX6_number_98 : decode cX6_number 98 = .ok (.ireturn, 1) := by decide +kernel
theorem dX6_number_99 : decode cX6_number 99 = .ok (.aload_n 0, 1) := by decide +kernel
theorem dX6_number_100 : decode cX6_number 100 = .ok (.iload 5, 2) := by decide +kernel
theorem dX6_number_102 : decode cX6_number 102 = .ok (.putfield 174, 3) := by decide +kernel
theorem dX6_number_105 : decode cX6_number 105 = .ok (.aload_n 0, 1) := by decide +kernel
theorem dX6_number_106 : decode cX6_number 106 = .ok (.lload_n 3, 1) := by decide +kernel
theorem dX6_number_107 : decode cX6_number 107 = .ok (.l2i, 1) := by decide +kernel
theorem dX6_number_108 : decode cX6_number 108 = .ok (.putfield 228, 3) := by decide +kernel
theorem dX6_number_111 : decode cX6_number 111 = .ok (.iconst 1, 1) := by decide +kernel
theorem dX6_number_112 : decode cX6_number 112 = .ok (.ireturn, 1) := by decide +kernel
set_option maxRecDepth 20000 in
theorem ggX6_isNumber_X6_blanks : GoodIn wsX6_isNumber wsX6_blanks := goodIn_r _ [7, 2, 8, 9, 10, 6, 11, 12, 13, 20, 21, 22, 23, 24, 25, 26, 27, 28, 29, 30, 31, 32, 33, 34, 35, 36, 37, 38, 39] (by decide +kernel) (by decide +kernel)
set_option maxRecDepth 20000 in
theorem gX6_isNumber_X6_blanks : GoodIn wsX6_isNumber (wsV RX6 186 RX6 yX6_blanks wsX6_blanks) := goodIn_app (goodIn_of _ (by decide +kernel)) ggX6_isNumber_X6_blanks
set_option maxRecDepth 20000 in
theorem ggX6_isNumber_X6_byteAt : GoodIn wsX6_isNumber wsX6_byteAt := goodIn_r _ [11, 12, 13, 20, 21, 22, 23, 24, 25, 26, 27, 28, 29, 30, 31, 32, 33, 34, 35, 36, 37, 38, 39] (by decide +kernel) (by decide +kernel)
set_option maxRecDepth 20000 in
theorem gX6_isNumber_X6_byteAt : GoodIn wsX6_isNumber (wsV RX6 177 RX6 yX6_byteAt wsX6_byteAt) := goodIn_app (goodIn_of _ (by decide +kernel)) ggX6_isNumber_X6_byteAt
set_option maxRecDepth 20000 in
theorem ggX6_isNumber_X6_isDigit : GoodIn wsX6_isNumber wsX6_isDigit := goodIn_r _ [16, 17, 18, 6, 19] (by decide +kernel) (by decide +kernel)
set_option maxRecDepth 20000 in
theorem gX6_isNumber_X6_isDigit : GoodIn wsX6_isNumber (va_wsS RX6 213 yX6_isDigit wsX6_isDigit) := goodIn_app (goodIn_of _ (by decide +kernel)) ggX6_isNumber_X6_isDigit
theorem dX6_isNumber_0 : decode cX6_isNumber 0 = .ok (.aload_n 0, 1) := by decide +kernel
theorem dX6_isNumber_1 : decode cX6_isNumber 1 = .ok (.invokevirtual 186, 3) := by decide +kernel
theorem dX6_isNumber_4 : decode cX6_isNumber 4 = .ok (.aload_n 0, 1) := by decide +kernel
theorem dX6_isNumber_5 : decode cX6_isNumber 5 = .ok (.getfield 180, 3) := by decide +kernel
theorem dX6_isNumber_8 : decode cX6_isNumber 8 = .ok (.ifCond .ge 21, 3) := by decide +kernel
theorem dX6_isNumber_11 : decode cX6_isNumber 11 = .ok (.aload_n 0, 1) := by decide +kernel
theorem dX6_isNumber_12 : decode cX6_isNumber 12 = .ok (.aload_n 0, 1) := by decide +kernel
theorem dX6_isNumber_13 : decode cX6_isNumber 13 = .ok (.getfield 174, 3) := by decide +kernel
theorem dX6_isNumber_16 : decode cX6_isNumber 16 = .ok (.invokevirtual 177, 3) := by decide +kernel
theorem dX6_isNumber_19 : decode cX6_isNumber 19 = .ok (.invokestatic 213, 3) := by decide +kernel
theorem dX6_isNumber_22 : decode cX6_isNumber 22 = .ok (.ifCond .eq 7, 3) := by decide +kernel
theorem dX6_isNumber_25 : decode cX6_isNumber 25 = .ok (.iconst 1, 1) := by decide +kernel
theorem dX6_isNumber_26 : decode cX6_isNumber 26 = .ok (.goto 4, 3) := by decide +kernel
theorem dX6_isNumber_29 : decode cX6_isNumber 29 = .ok (.iconst 0, 1) := by decide +kernel
theorem dX6_isNumber_30 : decode cX6_isNumber 30 = .ok (.ireturn, 1) := by decide +kernel
theorem dX6_kindName_0 : decode cX6_kindName 0 = .ok (.iload_n 0, 1) := by decide +kernel
theorem dX6_kindName_1 : decode cX6_kindName 1 = .ok (.tableswitch 50 0 4 #[35, 38, 41, 44, 47], 35) := by decide +kernel
theorem dX6_kindName_36 : decode cX6_kindName 36 = .ok (.ldc 231, 2) := by decide +kernel
theorem dX6_kindName_38 : decode cX6_kindName 38 = .ok (.areturn, 1) := by decide +kernel
theorem dX6_kindName_39 : decode cX6_kindName 39 = .ok (.ldc 233, 2) := by decide +kernel
theorem dX6_kindName_41 : decode cX6_kindName 41 = .ok (.areturn, 1) := by decide +kernel
theorem dX6_kindName_42 : decode cX6_kindName 42 = .ok (.ldc 235, 2) := by decide +kernel
theorem dX6_kindName_44 : decode cX6_kindName 44 = .ok (.areturn, 1) := by decide +kernel
theorem dX6_kindName_45 : decode cX6_kindName 45 = .ok (.ldc 237, 2) := by decide +kernel
theorem dX6_kindName_47 : decode cX6_kindName 47 = .ok (.areturn, 1) := by decide +kernel
theorem dX6_kindName_48 : decode cX6_kindName 48 = .ok (.ldc 239, 2) := by decide +kernel
theorem dX6_kindName_50 : decode cX6_kindName 50 = .ok (.areturn, 1) := by decide +kernel
theorem dX6_kindName_51 : decode cX6_kindName 51 = .ok (.ldc 241, 2) := by decide +kernel
theorem dX6_kindName_53 : decode cX6_kindName 53 = .ok (.areturn, 1) := by decide +kernel
set_option maxRecDepth 20000 in
theorem ggX6_partTold_X6_number : GoodIn wsX6_partTold wsX6_number := goodIn_r _ [6, 7, 8, 9, 10, 11, 12, 13, 14, 15, 1, 16, 17, 18, 5, 19, 20, 21, 22, 23, 24, 25, 26, 27, 28, 29, 30, 31, 32, 33, 34, 35, 105, 106, 107, 108, 109, 110, 111, 112, 113, 114, 115, 116, 117, 118, 119, 120, 121, 122, 123, 124] (by decide +kernel) (by decide +kernel)
set_option maxRecDepth 20000 in
theorem gX6_partTold_X6_number : GoodIn wsX6_partTold (wsV RX6 243 RX6 yX6_number wsX6_number) := goodIn_app (goodIn_of _ (by decide +kernel)) ggX6_partTold_X6_number
set_option maxRecDepth 20000 in
theorem ggX6_partTold_X6_may : GoodIn wsX6_partTold wsX6_may := goodIn_r _ [39, 7, 8, 40, 41, 42, 5, 43, 16, 17, 18, 19, 20, 21, 22, 23, 24, 25, 44, 45, 46, 47, 48, 49, 50, 29, 30, 31, 51, 52, 53, 54, 55, 56, 57, 58, 59, 60, 61, 62, 63, 64, 65, 66, 67, 68, 69, 70, 71, 72, 73, 74, 75, 76, 77, 78, 79, 80, 81, 82, 83, 84, 85, 86, 87, 88, 89, 90, 91, 92, 93, 94, 95, 96, 97, 98, 99, 105, 106, 107, 108, 109, 110, 111, 112, 113, 114, 115, 116, 117, 118, 119, 120, 121, 122, 123, 124] (by decide +kernel) (by decide +kernel)
set_option maxRecDepth 20000 in
theorem gX6_partTold_X6_may : GoodIn wsX6_partTold (wsV RX6 206 RX6 yX6_may wsX6_may) := goodIn_app (goodIn_of _ (by decide +kernel)) ggX6_partTold_X6_may
set_option maxRecDepth 20000 in
theorem ggX6_partTold_X6_adds : GoodIn wsX6_partTold wsX6_adds := goodIn_r _ [103, 104, 105, 106, 107, 108, 109, 110, 111, 112, 113, 114, 115, 116, 117, 118, 119, 120, 121, 122, 123, 124] (by decide +kernel) (by decide +kernel)
set_option maxRecDepth 20000 in
theorem gX6_partTold_X6_adds : GoodIn wsX6_partTold (wsV RX6 72 RX6 yX6_adds wsX6_adds) := goodIn_app (goodIn_of _ (by decide +kernel)) ggX6_partTold_X6_adds
theorem dX6_partTold_0 : decode cX6_partTold 0 = .ok (.aload_n 0, 1) := by decide +kernel
theorem dX6_partTold_1 : decode cX6_partTold 1 = .ok (.iconst 1, 1) := by decide +kernel
theorem dX6_partTold_2 : decode cX6_partTold 2 = .ok (.bipush 12, 2) := by decide +kernel
theorem dX6_partTold_4 : decode cX6_partTold 4 = .ok (.invokevirtual 243, 3) := by decide +kernel
theorem dX6_partTold_7 : decode cX6_partTold 7 = .ok (.ifCond .ne 5, 3) := by decide +kernel
theorem dX6_partTold_10 : decode cX6_partTold 10 = .ok (.iconst 0, 1) := by decide +kernel
theorem dX6_partTold_11 : decode cX6_partTold 11 = .ok (.ireturn, 1) := by decide +kernel
theorem dX6_partTold_12 : decode cX6_partTold 12 = .ok (.aload_n 0, 1) := by decide +kernel
theorem dX6_partTold_13 : decode cX6_partTold 13 = .ok (.getfield 228, 3) := by decide +kernel
theorem dX6_partTold_16 : decode cX6_partTold 16 = .ok (.istore_n 2, 1) := by decide +kernel
theorem dX6_partTold_17 : decode cX6_partTold 17 = .ok (.aload_n 0, 1) := by decide +kernel
theorem dX6_partTold_18 : decode cX6_partTold 18 = .ok (.getfield 228, 3) := by decide +kernel
theorem dX6_partTold_21 : decode cX6_partTold 21 = .ok (.istore_n 3, 1) := by decide +kernel
theorem dX6_partTold_22 : decode cX6_partTold 22 = .ok (.iconst 1, 1) := by decide +kernel
theorem dX6_partTold_23 : decode cX6_partTold 23 = .ok (.istore 4, 2) := by decide +kernel
theorem dX6_partTold_25 : decode cX6_partTold 25 = .ok (.aload_n 0, 1) := by decide +kernel
theorem dX6_partTold_26 : decode cX6_partTold 26 = .ok (.ldc 246, 2) := by decide +kernel
theorem dX6_partTold_28 : decode cX6_partTold 28 = .ok (.invokevirtual 206, 3) := by decide +kernel
theorem dX6_partTold_31 : decode cX6_partTold 31 = .ok (.ifCond .eq 20, 3) := by decide +kernel
theorem dX6_partTold_34 : decode cX6_partTold 34 = .ok (.aload_n 0, 1) := by decide +kernel
theorem dX6_partTold_35 : decode cX6_partTold 35 = .ok (.iload_n 2, 1) := by decide +kernel
theorem dX6_partTold_36 : decode cX6_partTold 36 = .ok (.bipush 12, 2) := by decide +kernel
theorem dX6_partTold_38 : decode cX6_partTold 38 = .ok (.invokevirtual 243, 3) := by decide +kernel
theorem dX6_partTold_41 : decode cX6_partTold 41 = .ok (.ifCond .ne 5, 3) := by decide +kernel
theorem dX6_partTold_44 : decode cX6_partTold 44 = .ok (.iconst 0, 1) := by decide +kernel
theorem dX6_partTold_45 : decode cX6_partTold 45 = .ok (.ireturn, 1) := by decide +kernel
theorem dX6_partTold_46 : decode cX6_partTold 46 = .ok (.aload_n 0, 1) := by decide +kernel
theorem dX6_partTold_47 : decode cX6_partTold 47 = .ok (.getfield 228, 3) := by decide +kernel
theorem dX6_partTold_50 : decode cX6_partTold 50 = .ok (.istore_n 3, 1) := by decide +kernel
theorem dX6_partTold_51 : decode cX6_partTold 51 = .ok (.aload_n 0, 1) := by decide +kernel
theorem dX6_partTold_52 : decode cX6_partTold 52 = .ok (.ldc 248, 2) := by decide +kernel
theorem dX6_partTold_54 : decode cX6_partTold 54 = .ok (.invokevirtual 206, 3) := by decide +kernel
theorem dX6_partTold_57 : decode cX6_partTold 57 = .ok (.ifCond .eq 21, 3) := by decide +kernel
theorem dX6_partTold_60 : decode cX6_partTold 60 = .ok (.aload_n 0, 1) := by decide +kernel
theorem dX6_partTold_61 : decode cX6_partTold 61 = .ok (.iconst 0, 1) := by decide +kernel
theorem dX6_partTold_62 : decode cX6_partTold 62 = .ok (.bipush 9, 2) := by decide +kernel
theorem dX6_partTold_64 : decode cX6_partTold 64 = .ok (.invokevirtual 243, 3) := by decide +kernel
theorem dX6_partTold_67 : decode cX6_partTold 67 = .ok (.ifCond .ne 5, 3) := by decide +kernel
theorem dX6_partTold_70 : decode cX6_partTold 70 = .ok (.iconst 0, 1) := by decide +kernel
theorem dX6_partTold_71 : decode cX6_partTold 71 = .ok (.ireturn, 1) := by decide +kernel
theorem dX6_partTold_72 : decode cX6_partTold 72 = .ok (.aload_n 0, 1) := by decide +kernel
theorem dX6_partTold_73 : decode cX6_partTold 73 = .ok (.getfield 228, 3) := by decide +kernel
theorem dX6_partTold_76 : decode cX6_partTold 76 = .ok (.istore 4, 2) := by decide +kernel
theorem dX6_partTold_78 : decode cX6_partTold 78 = .ok (.aload_n 0, 1) := by decide +kernel
theorem dX6_partTold_79 : decode cX6_partTold 79 = .ok (.iload_n 1, 1) := by decide +kernel
theorem dX6_partTold_80 : decode cX6_partTold 80 = .ok (.iload_n 2, 1) := by decide +kernel
theorem dX6_partTold_81 : decode cX6_partTold 81 = .ok (.iload_n 3, 1) := by decide +kernel
theorem dX6_partTold_82 : decode cX6_partTold 82 = .ok (.iload 4, 2) := by decide +kernel
theorem dX6_partTold_84 : decode cX6_partTold 84 = .ok (.invokevirtual 72, 3) := by decide +kernel
theorem dX6_partTold_87 : decode cX6_partTold 87 = .ok (.iconst 1, 1) := by decide +kernel
theorem dX6_partTold_88 : decode cX6_partTold 88 = .ok (.ireturn, 1) := by decide +kernel
set_option maxRecDepth 20000 in
theorem ggX6_taleTold_X6_tale : GoodIn wsX6_taleTold wsX6_tale := goodIn_r _ [7, 1, 8, 9, 10, 6, 11, 12, 13, 123, 124, 125, 126, 127, 128, 129, 130, 131, 132, 133, 134, 135, 136, 137, 138, 139, 140, 141, 142] (by decide +kernel) (by decide +kernel)
set_option maxRecDepth 20000 in
theorem gX6_taleTold_X6_tale : GoodIn wsX6_taleTold (wsV RX6 250 RX6 yX6_tale wsX6_tale) := goodIn_app (goodIn_of _ (by decide +kernel)) ggX6_taleTold_X6_tale
set_option maxRecDepth 20000 in
theorem ggX6_taleTold_X6_may : GoodIn wsX6_taleTold wsX6_may := goodIn_r _ [17, 18, 19, 20, 21, 22, 6, 23, 24, 25, 26, 27, 28, 29, 30, 31, 32, 33, 34, 35, 36, 37, 38, 39, 40, 41, 42, 43, 44, 45, 46, 47, 48, 49, 50, 51, 52, 53, 54, 55, 56, 57, 58, 59, 60, 61, 62, 63, 64, 65, 66, 67, 68, 69, 70, 71, 72, 73, 74, 75, 76, 77, 78, 79, 80, 81, 82, 83, 84, 85, 86, 87, 88, 89, 90, 91, 92, 123, 124, 125, 126, 127, 128, 129, 130, 131, 132, 133, 134, 135, 136, 137, 138, 139, 140, 141, 142] (by decide +kernel) (by decide +kernel)
set_option maxRecDepth 20000 in
theorem gX6_taleTold_X6_may : GoodIn wsX6_taleTold (wsV RX6 206 RX6 yX6_may wsX6_may) := goodIn_app (goodIn_of _ (by decide +kernel)) ggX6_taleTold_X6_may
set_option maxRecDepth 20000 in
theorem ggX6_taleTold_X6_long_ : GoodIn wsX6_taleTold wsX6_long_ := goodIn_r _ [96, 1, 123, 124, 125, 126, 127, 128, 129, 130, 131, 132, 133, 134, 135, 136, 137, 138, 139, 140, 141, 142] (by decide +kernel) (by decide +kernel)
set_option maxRecDepth 20000 in
theorem gX6_taleTold_X6_long_ : GoodIn wsX6_taleTold (wsV RX6 105 RX6 yX6_long_ wsX6_long_) := goodIn_app (goodIn_of _ (by decide +kernel)) ggX6_taleTold_X6_long_
set_option maxRecDepth 20000 in
theorem ggX6_taleTold_X6_fails : GoodIn wsX6_taleTold wsX6_fails := goodIn_r _ [100, 18, 19, 123, 124, 125, 126, 127, 128, 129, 130, 131, 132, 133, 134, 135, 136, 137, 138, 139, 140, 141, 142] (by decide +kernel) (by decide +kernel)
set_option maxRecDepth 20000 in
theorem gX6_taleTold_X6_fails : GoodIn wsX6_taleTold (wsV RX6 209 RX6 yX6_fails wsX6_fails) := goodIn_app (goodIn_of _ (by decide +kernel)) ggX6_taleTold_X6_fails
set_option maxRecDepth 20000 in
theorem ggX6_taleTold_X6_number : GoodIn wsX6_taleTold wsX6_number := goodIn_r _ [104, 18, 19, 105, 106, 107, 108, 109, 110, 111, 2, 24, 25, 26, 6, 27, 28, 29, 30, 31, 32, 33, 112, 113, 114, 41, 42, 43, 97, 98, 99, 100, 123, 124, 125, 126, 127, 128, 129, 130, 131, 132, 133, 134, 135, 136, 137, 138, 139, 140, 141, 142] (by decide +kernel) (by decide +kernel)
set_option maxRecDepth 20000 in
theorem gX6_taleTold_X6_number : GoodIn wsX6_taleTold (wsV RX6 243 RX6 yX6_number wsX6_number) := goodIn_app (goodIn_of _ (by decide +kernel)) ggX6_taleTold_X6_number
set_option maxRecDepth 20000 in
theorem ggX6_taleTold_X6_tells : GoodIn wsX6_taleTold wsX6_tells := goodIn_r _ [118, 1, 123, 124, 125, 126, 127, 128, 129, 130, 131, 132, 133, 134, 135, 136, 137, 138, 139, 140, 141, 142] (by decide +kernel) (by decide +kernel)
set_option maxRecDepth 20000 in
theorem gX6_taleTold_X6_tells : GoodIn wsX6_taleTold (wsV RX6 108 RX6 yX6_tells wsX6_tells) := goodIn_app (goodIn_of _ (by decide +kernel)) ggX6_taleTold_X6_tells
set_option maxRecDepth 20000 in
theorem ggX6_taleTold_X6_isNumber : GoodIn wsX6_taleTold wsX6_isNumber := goodIn_r _ [122, 18, 19, 24, 25, 26, 6, 27, 28, 29, 30, 31, 32, 33, 112, 113, 114, 41, 42, 43, 123, 124, 125, 126, 127, 128, 129, 130, 131, 132, 133, 134, 135, 136, 137, 138, 139, 140, 141, 142] (by decide +kernel) (by decide +kernel)
set_option maxRecDepth 20000 in
theorem gX6_taleTold_X6_isNumber : GoodIn wsX6_taleTold (wsV RX6 255 RX6 yX6_isNumber wsX6_isNumber) := goodIn_app (goodIn_of _ (by decide +kernel)) ggX6_taleTold_X6_isNumber
theorem dX6_taleTold_0 : decode cX6_taleTold 0 = .ok (.aload_n 0, 1) := by decide +kernel
theorem dX6_taleTold_1 : decode cX6_taleTold 1 = .ok (.invokevirtual 250, 3) := by decide +kernel
theorem dX6_taleTold_4 : decode cX6_taleTold 4 = .ok (.istore_n 1, 1) := by decide +kernel
theorem dX6_taleTold_5 : decode cX6_taleTold 5 = .ok (.aload_n 0, 1) := by decide +kernel
theorem dX6_taleTold_6 : decode cX6_taleTold 6 = .ok (.ldc 253, 2) := by decide +kernel
theorem dX6_taleTold_8 : decode cX6_taleTold 8 = .ok (.invokevirtual 206, 3) := by decide +kernel
theorem dX6_taleTold_11 : decode cX6_taleTold 11 = .ok (.ifCond .ne 5, 3) := by decide +kernel
theorem dX6_taleTold_14 : decode cX6_taleTold 14 = .ok (.iconst 1, 1) := by decide +kernel
theorem dX6_taleTold_15 : decode cX6_taleTold 15 = .ok (.ireturn, 1) := by decide +kernel
theorem dX6_taleTold_16 : decode cX6_taleTold 16 = .ok (.aload_n 0, 1) := by decide +kernel
theorem dX6_taleTold_17 : decode cX6_taleTold 17 = .ok (.iload_n 1, 1) := by decide +kernel
theorem dX6_taleTold_18 : decode cX6_taleTold 18 = .ok (.invokevirtual 105, 3) := by decide +kernel
theorem dX6_taleTold_21 : decode cX6_taleTold 21 = .ok (.bipush 10, 2) := by decide +kernel
theorem dX6_taleTold_23 : decode cX6_taleTold 23 = .ok (.if_icmp .ne 8, 3) := by decide +kernel
theorem dX6_taleTold_26 : decode cX6_taleTold 26 = .ok (.aload_n 0, 1) := by decide +kernel
theorem dX6_taleTold_27 : decode cX6_taleTold 27 = .ok (.invokevirtual 209, 3) := by decide +kernel
theorem dX6_taleTold_30 : decode cX6_taleTold 30 = .ok (.ireturn, 1) := by decide +kernel
theorem dX6_taleTold_31 : decode cX6_taleTold 31 = .ok (.aload_n 0, 1) := by decide +kernel
theorem dX6_taleTold_32 : decode cX6_taleTold 32 = .ok (.iconst 0, 1) := by decide +kernel
theorem dX6_taleTold_33 : decode cX6_taleTold 33 = .ok (.aload_n 0, 1) := by decide +kernel
theorem dX6_taleTold_34 : decode cX6_taleTold 34 = .ok (.getfield 9, 3) := by decide +kernel
theorem dX6_taleTold_37 : decode cX6_taleTold 37 = .ok (.iconst 1, 1) := by decide +kernel
theorem dX6_taleTold_38 : decode cX6_taleTold 38 = .ok (.iaload, 1) := by decide +kernel
theorem dX6_taleTold_39 : decode cX6_taleTold 39 = .ok (.iconst 1, 1) := by decide +kernel
theorem dX6_taleTold_40 : decode cX6_taleTold 40 = .ok (.isub, 1) := by decide +kernel
theorem dX6_taleTold_41 : decode cX6_taleTold 41 = .ok (.invokevirtual 243, 3) := by decide +kernel
theorem dX6_taleTold_44 : decode cX6_taleTold 44 = .ok (.ifCond .ne 5, 3) := by decide +kernel
theorem dX6_taleTold_47 : decode cX6_taleTold 47 = .ok (.iconst 0, 1) := by decide +kernel
theorem dX6_taleTold_48 : decode cX6_taleTold 48 = .ok (.ireturn, 1) := by decide +kernel
theorem dX6_taleTold_49 : decode cX6_taleTold 49 = .ok (.aload_n 0, 1) := by decide +kernel
theorem dX6_taleTold_50 : decode cX6_taleTold 50 = .ok (.iload_n 1, 1) := by decide +kernel
theorem dX6_taleTold_51 : decode cX6_taleTold 51 = .ok (.aload_n 0, 1) := by decide +kernel
theorem dX6_taleTold_52 : decode cX6_taleTold 52 = .ok (.getfield 228, 3) := by decide +kernel
theorem dX6_taleTold_55 : decode cX6_taleTold 55 = .ok (.invokevirtual 108, 3) := by decide +kernel
theorem dX6_taleTold_58 : decode cX6_taleTold 58 = .ok (.aload_n 0, 1) := by decide +kernel
theorem dX6_taleTold_59 : decode cX6_taleTold 59 = .ok (.invokevirtual 255, 3) := by decide +kernel
theorem dX6_taleTold_62 : decode cX6_taleTold 62 = .ok (.ifCond .ne (-46), 3) := by decide +kernel
theorem dX6_taleTold_65 : decode cX6_taleTold 65 = .ok (.iconst 1, 1) := by decide +kernel
theorem dX6_taleTold_66 : decode cX6_taleTold 66 = .ok (.ireturn, 1) := by decide +kernel
set_option maxRecDepth 20000 in
theorem ggX6_item_X6_kindName : GoodIn wsX6_item wsX6_kindName := goodIn_r _ [6] (by decide +kernel) (by decide +kernel)
set_option maxRecDepth 20000 in
theorem gX6_item_X6_kindName : GoodIn wsX6_item (va_wsS RX6 258 yX6_kindName wsX6_kindName) := goodIn_app (goodIn_of _ (by decide +kernel)) ggX6_item_X6_kindName
set_option maxRecDepth 20000 in
theorem ggX6_item_X6_isWord : GoodIn wsX6_item wsX6_isWord := goodIn_r _ [10, 11, 12, 13, 14, 5, 15, 16, 17, 18, 19, 20, 21, 22, 23, 24, 25, 26, 27, 28, 29, 30, 31, 32, 33, 34, 35, 36, 37, 38, 39, 40, 41, 42, 43, 44, 45, 46, 47, 48, 49, 50, 51, 52, 53, 54, 55, 56, 57, 58, 59, 60, 61, 62, 63, 64, 65, 66, 67, 68, 69, 70, 71, 72, 73, 74, 75, 76, 77, 78, 79, 80, 142, 143, 144, 145, 146, 147, 148, 149, 150, 151, 152, 153, 154, 155, 156, 157, 158, 159, 160, 161] (by decide +kernel) (by decide +kernel)
set_option maxRecDepth 20000 in
theorem gX6_item_X6_isWord : GoodIn wsX6_item (wsV RX6 202 RX6 yX6_isWord wsX6_isWord) := goodIn_app (goodIn_of _ (by decide +kernel)) ggX6_item_X6_isWord
set_option maxRecDepth 20000 in
theorem ggX6_item_X6_fails : GoodIn wsX6_item wsX6_fails := goodIn_r _ [84, 85, 11, 142, 143, 144, 145, 146, 147, 148, 149, 150, 151, 152, 153, 154, 155, 156, 157, 158, 159, 160, 161] (by decide +kernel) (by decide +kernel)
set_option maxRecDepth 20000 in
theorem gX6_item_X6_fails : GoodIn wsX6_item (wsV RX6 209 RX6 yX6_fails wsX6_fails) := goodIn_app (goodIn_of _ (by decide +kernel)) ggX6_item_X6_fails
set_option maxRecDepth 20000 in
theorem ggX6_item_X6_may : GoodIn wsX6_item wsX6_may := goodIn_r _ [89, 85, 11, 7, 8, 9, 5, 10, 12, 13, 14, 15, 16, 17, 18, 19, 20, 21, 22, 23, 24, 25, 26, 27, 28, 29, 30, 31, 32, 33, 34, 35, 36, 37, 38, 39, 40, 41, 42, 43, 44, 45, 46, 47, 48, 49, 50, 51, 52, 53, 54, 55, 56, 57, 58, 59, 60, 61, 62, 63, 64, 65, 66, 67, 68, 69, 70, 71, 72, 73, 74, 75, 76, 77, 78, 79, 80, 142, 143, 144, 145, 146, 147, 148, 149, 150, 151, 152, 153, 154, 155, 156, 157, 158, 159, 160, 161] (by decide +kernel) (by decide +kernel)
set_option maxRecDepth 20000 in
theorem gX6_item_X6_may : GoodIn wsX6_item (wsV RX6 206 RX6 yX6_may wsX6_may) := goodIn_app (goodIn_of _ (by decide +kernel)) ggX6_item_X6_may
set_option maxRecDepth 20000 in
theorem ggX6_item_X6_partTold : GoodIn wsX6_item wsX6_partTold := goodIn_r _ [93, 2, 94, 95, 96, 5, 97, 85, 11, 98, 99, 100, 101, 102, 103, 104, 12, 13, 14, 15, 16, 17, 18, 19, 20, 21, 105, 106, 107, 29, 30, 31, 81, 82, 83, 84, 86, 87, 88, 89, 7, 8, 9, 10, 22, 23, 24, 25, 26, 27, 28, 32, 33, 34, 35, 36, 37, 38, 39, 40, 41, 42, 43, 44, 45, 46, 47, 48, 49, 50, 51, 52, 53, 54, 55, 56, 57, 58, 59, 60, 61, 62, 63, 64, 65, 66, 67, 68, 69, 70, 71, 72, 73, 74, 75, 76, 77, 78, 79, 80, 108, 109, 110, 111, 1, 142, 143, 144, 145, 146, 147, 148, 149, 150, 151, 152, 153, 154, 155, 156, 157, 158, 159, 160, 161] (by decide +kernel) (by decide +kernel)
set_option maxRecDepth 20000 in
theorem gX6_item_X6_partTold : GoodIn wsX6_item (wsV RX6 262 RX6 yX6_partTold wsX6_partTold) := goodIn_app (goodIn_of _ (by decide +kernel)) ggX6_item_X6_partTold
set_option maxRecDepth 20000 in
theorem ggX6_item_X6_taleTold : GoodIn wsX6_item wsX6_taleTold := goodIn_r _ [115, 1, 2, 116, 117, 118, 5, 119, 120, 121, 122, 123, 124, 125, 86, 87, 88, 89, 85, 11, 7, 8, 9, 10, 12, 13, 14, 15, 16, 17, 18, 19, 20, 21, 22, 23, 24, 25, 26, 27, 28, 29, 30, 31, 32, 33, 34, 35, 36, 37, 38, 39, 40, 41, 42, 43, 44, 45, 46, 47, 48, 49, 50, 51, 52, 53, 54, 55, 56, 57, 58, 59, 60, 61, 62, 63, 64, 65, 66, 67, 68, 69, 70, 71, 72, 73, 74, 75, 76, 77, 78, 79, 80, 126, 127, 128, 129, 81, 82, 83, 84, 94, 95, 96, 97, 98, 99, 100, 101, 102, 103, 104, 105, 106, 107, 130, 131, 132, 133, 134, 135, 136, 137, 142, 143, 144, 145, 146, 147, 148, 149, 150, 151, 152, 153, 154, 155, 156, 157, 158, 159, 160, 161] (by decide +kernel) (by decide +kernel)
set_option maxRecDepth 20000 in
theorem gX6_item_X6_taleTold : GoodIn wsX6_item (wsV RX6 266 RX6 yX6_taleTold wsX6_taleTold) := goodIn_app (goodIn_of _ (by decide +kernel)) ggX6_item_X6_taleTold
set_option maxRecDepth 20000 in
theorem ggX6_item_X6_must : GoodIn wsX6_item wsX6_must := goodIn_r _ [141, 86, 87, 88, 5, 89, 85, 11, 7, 8, 9, 10, 12, 13, 14, 15, 16, 17, 18, 19, 20, 21, 22, 23, 24, 25, 26, 27, 28, 29, 30, 31, 32, 33, 34, 35, 36, 37, 38, 39, 40, 41, 42, 43, 44, 45, 46, 47, 48, 49, 50, 51, 52, 53, 54, 55, 56, 57, 58, 59, 60, 61, 62, 63, 64, 65, 66, 67, 68, 69, 70, 71, 72, 73, 74, 75, 76, 77, 78, 79, 80, 81, 82, 83, 84, 142, 143, 144, 145, 146, 147, 148, 149, 150, 151, 152, 153, 154, 155, 156, 157, 158, 159, 160, 161] (by decide +kernel) (by decide +kernel)
set_option maxRecDepth 20000 in
theorem gX6_item_X6_must : GoodIn wsX6_item (wsV RX6 271 RX6 yX6_must wsX6_must) := goodIn_app (goodIn_of _ (by decide +kernel)) ggX6_item_X6_must
set_option maxRecDepth 20000 in
theorem ggX6_item_X6_number : GoodIn wsX6_item wsX6_number := goodIn_r _ [97, 85, 11, 98, 99, 100, 101, 102, 103, 104, 2, 12, 13, 14, 5, 15, 16, 17, 18, 19, 20, 21, 105, 106, 107, 29, 30, 31, 81, 82, 83, 84, 142, 143, 144, 145, 146, 147, 148, 149, 150, 151, 152, 153, 154, 155, 156, 157, 158, 159, 160, 161] (by decide +kernel) (by decide +kernel)
set_option maxRecDepth 20000 in
theorem gX6_item_X6_number : GoodIn wsX6_item (wsV RX6 243 RX6 yX6_number wsX6_number) := goodIn_app (goodIn_of _ (by decide +kernel)) ggX6_item_X6_number
theorem dX6_item_0 : decode cX6_item 0 = .ok (.iconst 0, 1) := by decide +kernel
theorem dX6_item_1 : decode cX6_item 1 = .ok (.istore_n 1, 1) := by decide +kernel
theorem dX6_item_2 : decode cX6_item 2 = .ok (.iload_n 1, 1) := by decide +kernel
theorem dX6_item_3 : decode cX6_item 3 = .ok (.bipush 6, 2) := by decide +kernel
theorem dX6_item_5 : decode cX6_item 5 = .ok (.if_icmp .ge 53, 3) := by decide +kernel
theorem dX6_item_8 : decode cX6_item 8 = .ok (.aload_n 0, 1) := by decide +kernel
theorem dX6_item_9 : decode cX6_item 9 = .ok (.iload_n 1, 1) := by decide +kernel
theorem dX6_item_10 : decode cX6_item 10 = .ok (.invokestatic 258, 3) := by decide +kernel
theorem dX6_item_13 : decode cX6_item 13 = .ok (.invokevirtual 202, 3) := by decide +kernel
theorem dX6_item_16 : decode cX6_item 16 = .ok (.ifCond .eq 19, 3) := by decide +kernel
theorem dX6_item_19 : decode cX6_item 19 = .ok (.aload_n 0, 1) := by decide +kernel
theorem dX6_item_20 : decode cX6_item 20 = .ok (.getfield 9, 3) := by decide +kernel
theorem dX6_item_23 : decode cX6_item 23 = .ok (.iconst 1, 1) := by decide +kernel
theorem dX6_item_24 : decode cX6_item 24 = .ok (.iaload, 1) := by decide +kernel
theorem dX6_item_25 : decode cX6_item 25 = .ok (.bipush 16, 2) := by decide +kernel
theorem dX6_item_27 : decode cX6_item 27 = .ok (.if_icmp .ne 8, 3) := by decide +kernel
theorem dX6_item_30 : decode cX6_item 30 = .ok (.aload_n 0, 1) := by decide +kernel
theorem dX6_item_31 : decode cX6_item 31 = .ok (.invokevirtual 209, 3) := by decide +kernel
theorem dX6_item_34 : decode cX6_item 34 = .ok (.ireturn, 1) := by decide +kernel
theorem dX6_item_35 : decode cX6_item 35 = .ok (.aload_n 0, 1) := by decide +kernel
theorem dX6_item_36 : decode cX6_item 36 = .ok (.iload_n 1, 1) := by decide +kernel
theorem dX6_item_37 : decode cX6_item 37 = .ok (.invokestatic 258, 3) := by decide +kernel
theorem dX6_item_40 : decode cX6_item 40 = .ok (.invokevirtual 206, 3) := by decide +kernel
theorem dX6_item_43 : decode cX6_item 43 = .ok (.ifCond .eq 9, 3) := by decide +kernel
theorem dX6_item_46 : decode cX6_item 46 = .ok (.aload_n 0, 1) := by decide +kernel
theorem dX6_item_47 : decode cX6_item 47 = .ok (.iload_n 1, 1) := by decide +kernel
theorem dX6_item_48 : decode cX6_item 48 = .ok (.invokevirtual 262, 3) := by decide +kernel
theorem dX6_item_51 : decode cX6_item 51 = .ok (.ireturn, 1) := by decide +kernel
theorem dX6_item_52 : decode cX6_item 52 = .ok (.iinc 1 1, 3) := by decide +kernel
theorem dX6_item_55 : decode cX6_item 55 = .ok (.goto (-53), 3) := by decide +kernel
theorem dX6_item_58 : decode cX6_item 58 = .ok (.aload_n 0, 1) := by decide +kernel
theorem dX6_item_59 : decode cX6_item 59 = .ok (.ldc_w 265, 3) := by decide +kernel
theorem dX6_item_62 : decode cX6_item 62 = .ok (.invokevirtual 202, 3) := by decide +kernel
theorem dX6_item_65 : decode cX6_item 65 = .ok (.ifCond .eq 19, 3) := by decide +kernel
theorem dX6_item_68 : decode cX6_item 68 = .ok (.aload_n 0, 1) := by decide +kernel
theorem dX6_item_69 : decode cX6_item 69 = .ok (.getfield 9, 3) := by decide +kernel
theorem dX6_item_72 : decode cX6_item 72 = .ok (.iconst 2, 1) := by decide +kernel
theorem dX6_item_73 : decode cX6_item 73 = .ok (.iaload, 1) := by decide +kernel
theorem dX6_item_74 : decode cX6_item 74 = .ok (.bipush 8, 2) := by decide +kernel
theorem dX6_item_76 : decode cX6_item 76 = .ok (.if_icmp .ne 8, 3) := by decide +kernel
theorem dX6_item_79 : decode cX6_item 79 = .ok (.aload_n 0, 1) := by decide +kernel
theorem dX6_item_80 : decode cX6_item 80 = .ok (.invokevirtual 209, 3) := by decide +kernel
theorem dX6_item_83 : decode cX6_item 83 = .ok (.ireturn, 1) := by decide +kernel
theorem dX6_item_84 : decode cX6_item 84 = .ok (.aload_n 0, 1) := by decide +kernel
theorem dX6_item_85 : decode cX6_item 85 = .ok (.ldc_w 265, 3) := by decide +kernel
theorem dX6_item_88 : decode cX6_item 88 = .ok (.invokevirtual 206, 3) := by decide +kernel
theorem dX6_item_91 : decode cX6_item 91 = .ok (.ifCond .eq 8, 3) := by decide +kernel
theorem dX6_item_94 : decode cX6_item 94 = .ok (.aload_n 0, 1) := by decide +kernel
theorem dX6_item_95 : decode cX6_item 95 = .ok (.invokevirtual 266, 3) := by decide +kernel
theorem dX6_item_98 : decode cX6_item 98 = .ok (.ireturn, 1) := by decide +kernel
theorem dX6_item_99 : decode cX6_item 99 = .ok (.aload_n 0, 1) := by decide +kernel
theorem dX6_item_100 : decode cX6_item 100 = .ok (.ldc_w 269, 3) := by decide +kernel
theorem dX6_item_103 : decode cX6_item 103 = .ok (.invokevirtual 202, 3) := by decide +kernel
theorem dX6_item_106 : decode cX6_item 106 = .ok (.ifCond .eq 19, 3) := by decide +kernel
theorem dX6_item_109 : decode cX6_item 109 = .ok (.aload_n 0, 1) := by decide +kernel
theorem dX6_item_110 : decode cX6_item 110 = .ok (.getfield 9, 3) := by decide +kernel
theorem dX6_item_113 : decode cX6_item 113 = .ok (.iconst 3, 1) := by decide +kernel
theorem dX6_item_114 : decode cX6_item 114 = .ok (.iaload, 1) := by decide +kernel
theorem dX6_item_115 : decode cX6_item 115 = .ok (.bipush 10, 2) := by decide +kernel
theorem dX6_item_117 : decode cX6_item 117 = .ok (.if_icmp .ne 8, 3) := by decide +kernel
theorem dX6_item_120 : decode cX6_item 120 = .ok (.aload_n 0, 1) := by decide +kernel
theorem dX6_item_121 : decode cX6_item 121 = .ok (.invokevirtual 209, 3) := by decide +kernel
theorem dX6_item_124 : decode cX6_item 124 = .ok (.ireturn, 1) := by decide +kernel
theorem dX6_item_125 : decode cX6_item 125 = .ok (.aload_n 0, 1) := by decide +kernel
theorem dX6_item_126 : decode cX6_item 126 = .ok (.ldc_w 269, 3) := by decide +kernel
theorem dX6_item_129 : decode cX6_item 129 = .ok (.invokevirtual 271, 3) := by decide +kernel
theorem dX6_item_132 : decode cX6_item 132 = .ok (.ifCond .eq 13, 3) := by decide +kernel
theorem dX6_item_135 : decode cX6_item 135 = .ok (.aload_n 0, 1) := by decide +kernel
theorem dX6_item_136 : decode cX6_item 136 = .ok (.iconst 0, 1) := by decide +kernel
theorem dX6_item_137 : decode cX6_item 137 = .ok (.bipush 99, 2) := by decide +kernel
theorem dX6_item_139 : decode cX6_item 139 = .ok (.invokevirtual 243, 3) := by decide +kernel
theorem dX6_item_142 : decode cX6_item 142 = .ok (.ifCond .ne 5, 3) := by decide +kernel
theorem dX6_item_145 : decode cX6_item 145 = .ok (.iconst 0, 1) := by decide +kernel
theorem dX6_item_146 : decode cX6_item 146 = .ok (.ireturn, 1) := by decide +kernel
theorem dX6_item_147 : decode cX6_item 147 = .ok (.aload_n 0, 1) := by decide +kernel
theorem dX6_item_148 : decode cX6_item 148 = .ok (.getfield 9, 3) := by decide +kernel
theorem dX6_item_151 : decode cX6_item 151 = .ok (.sipush 156, 3) := by decide +kernel
theorem dX6_item_154 : decode cX6_item 154 = .ok (.aload_n 0, 1) := by decide +kernel
theorem dX6_item_155 : decode cX6_item 155 = .ok (.getfield 9, 3) := by decide +kernel
theorem dX6_item_158 : decode cX6_item 158 = .ok (.iconst 3, 1) := by decide +kernel
theorem dX6_item_159 : decode cX6_item 159 = .ok (.iaload, 1) := by decide +kernel
theorem dX6_item_160 : decode cX6_item 160 = .ok (.iadd, 1) := by decide +kernel
theorem dX6_item_161 : decode cX6_item 161 = .ok (.aload_n 0, 1) := by decide +kernel
theorem dX6_item_162 : decode cX6_item 162 = .ok (.getfield 228, 3) := by decide +kernel
theorem dX6_item_165 : decode cX6_item 165 = .ok (.iastore, 1) := by decide +kernel
theorem dX6_item_166 : decode cX6_item 166 = .ok (.aload_n 0, 1) := by decide +kernel
theorem dX6_item_167 : decode cX6_item 167 = .ok (.getfield 9, 3) := by decide +kernel
theorem dX6_item_170 : decode cX6_item 170 = .ok (.iconst 3, 1) := by decide +kernel
theorem dX6_item_171 : decode cX6_item 171 = .ok (.dup2, 1) := by decide +kernel
theorem dX6_item_172 : decode cX6_item 172 = .ok (.iaload, 1) := by decide +kernel
theorem dX6_item_173 : decode cX6_item 173 = .ok (.iconst 1, 1) := by decide +kernel
theorem dX6_item_174 : decode cX6_item 174 = .ok (.iadd, 1) := by decide +kernel
theorem dX6_item_175 : decode cX6_item 175 = .ok (.iastore, 1) := by decide +kernel
theorem dX6_item_176 : decode cX6_item 176 = .ok (.iconst 1, 1) := by decide +kernel
theorem dX6_item_177 : decode cX6_item 177 = .ok (.ireturn, 1) := by decide +kernel
set_option maxRecDepth 20000 in
theorem ggX6_book_X6_lay : GoodIn wsX6_book wsX6_lay := goodIn_r _ [9] (by decide +kernel) (by decide +kernel)
set_option maxRecDepth 20000 in
theorem gX6_book_X6_lay : GoodIn wsX6_book (va_wsS RX6 274 yX6_lay wsX6_lay) := goodIn_app (goodIn_of _ (by decide +kernel)) ggX6_book_X6_lay
set_option maxRecDepth 20000 in
theorem ggX6_book_X6_item : GoodIn wsX6_book wsX6_item := goodIn_r _ [13, 3, 14, 15, 16, 8, 17, 18, 19, 20, 21, 1, 22, 23, 24, 25, 26, 27, 28, 29, 5, 30, 31, 32, 33, 34, 35, 36, 37, 38, 39, 40, 41, 42, 43, 44, 45, 46, 47, 48, 49, 50, 51, 52, 53, 54, 55, 56, 57, 58, 59, 60, 61, 62, 63, 64, 65, 66, 67, 68, 69, 70, 71, 72, 73, 74, 75, 76, 77, 78, 79, 80, 81, 82, 83, 84, 85, 86, 87, 88, 89, 90, 91, 92, 93, 2, 94, 95, 96, 97, 98, 99, 100, 101, 102, 103, 104, 105, 106, 107, 108, 109, 110, 111, 112, 113, 114, 115, 116, 117, 118, 119, 120, 121, 122, 123, 124, 125, 126, 127, 128, 129, 130, 131, 132, 133, 134, 135, 136, 137, 138, 139, 140, 141, 142, 143, 144, 145, 146, 147, 148, 149, 150, 151, 152, 153, 154, 155, 156, 157, 158, 159, 160, 161, 162, 163, 164, 165, 166, 167, 168, 169] (by decide +kernel) (by decide +kernel)
set_option maxRecDepth 20000 in
theorem gX6_book_X6_item : GoodIn wsX6_book (wsV RX6 278 RX6 yX6_item wsX6_item) := goodIn_app (goodIn_of _ (by decide +kernel)) ggX6_book_X6_item
set_option maxRecDepth 20000 in
theorem ggX6_book_X6_blanks : GoodIn wsX6_book wsX6_blanks := goodIn_r _ [25, 1, 26, 27, 28, 8, 29, 5, 30, 150, 151, 152, 153, 154, 155, 156, 157, 158, 159, 160, 161, 162, 163, 164, 165, 166, 167, 168, 169] (by decide +kernel) (by decide +kernel)
set_option maxRecDepth 20000 in
theorem gX6_book_X6_blanks : GoodIn wsX6_book (wsV RX6 186 RX6 yX6_blanks wsX6_blanks) := goodIn_app (goodIn_of _ (by decide +kernel)) ggX6_book_X6_blanks
set_option maxRecDepth 20000 in
theorem ggX6_book_X6_byteAt : GoodIn wsX6_book wsX6_byteAt := goodIn_r _ [29, 5, 30, 150, 151, 152, 153, 154, 155, 156, 157, 158, 159, 160, 161, 162, 163, 164, 165, 166, 167, 168, 169] (by decide +kernel) (by decide +kernel)
set_option maxRecDepth 20000 in
theorem gX6_book_X6_byteAt : GoodIn wsX6_book (wsV RX6 177 RX6 yX6_byteAt wsX6_byteAt) := goodIn_app (goodIn_of _ (by decide +kernel)) ggX6_book_X6_byteAt
set_option maxRecDepth 20000 in
theorem ggX6_book_X6_fails : GoodIn wsX6_book wsX6_fails := goodIn_r _ [93, 2, 1, 150, 151, 152, 153, 154, 155, 156, 157, 158, 159, 160, 161, 162, 163, 164, 165, 166, 167, 168, 169] (by decide +kernel) (by decide +kernel)
set_option maxRecDepth 20000 in
theorem gX6_book_X6_fails : GoodIn wsX6_book (wsV RX6 209 RX6 yX6_fails wsX6_fails) := goodIn_app (goodIn_of _ (by decide +kernel)) ggX6_book_X6_fails
theorem dX6_book_0 : decode cX6_book 0 = .ok (.aload_n 0, 1) := by decide +kernel
theorem dX6_book_1 : decode cX6_book 1 = .ok (.iconst 0, 1) := by decide +kernel
theorem dX6_book_2 : decode cX6_book 2 = .ok (.putfield 174, 3) := by decide +kernel
theorem dX6_book_5 : decode cX6_book 5 = .ok (.aload_n 0, 1) := by decide +kernel
theorem dX6_book_6 : decode cX6_book 6 = .ok (.iconst (-1), 1) := by decide +kernel
theorem dX6_book_7 : decode cX6_book 7 = .ok (.putfield 180, 3) := by decide +kernel
theorem dX6_book_10 : decode cX6_book 10 = .ok (.aload_n 0, 1) := by decide +kernel
theorem dX6_book_11 : decode cX6_book 11 = .ok (.getfield 9, 3) := by decide +kernel
theorem dX6_book_14 : decode cX6_book 14 = .ok (.aload_n 0, 1) := by decide +kernel
theorem dX6_book_15 : decode cX6_book 15 = .ok (.getfield 16, 3) := by decide +kernel
theorem dX6_book_18 : decode cX6_book 18 = .ok (.invokestatic 274, 3) := by decide +kernel
theorem dX6_book_21 : decode cX6_book 21 = .ok (.iconst 0, 1) := by decide +kernel
theorem dX6_book_22 : decode cX6_book 22 = .ok (.istore_n 1, 1) := by decide +kernel
theorem dX6_book_23 : decode cX6_book 23 = .ok (.iconst 1, 1) := by decide +kernel
theorem dX6_book_24 : decode cX6_book 24 = .ok (.istore_n 2, 1) := by decide +kernel
theorem dX6_book_25 : decode cX6_book 25 = .ok (.iload_n 2, 1) := by decide +kernel
theorem dX6_book_26 : decode cX6_book 26 = .ok (.ifCond .eq 57, 3) := by decide +kernel
theorem dX6_book_29 : decode cX6_book 29 = .ok (.aload_n 0, 1) := by decide +kernel
theorem dX6_book_30 : decode cX6_book 30 = .ok (.invokevirtual 278, 3) := by decide +kernel
theorem dX6_book_33 : decode cX6_book 33 = .ok (.ifCond .eq 50, 3) := by decide +kernel
theorem dX6_book_36 : decode cX6_book 36 = .ok (.iinc 1 1, 3) := by decide +kernel
theorem dX6_book_39 : decode cX6_book 39 = .ok (.aload_n 0, 1) := by decide +kernel
theorem dX6_book_40 : decode cX6_book 40 = .ok (.invokevirtual 186, 3) := by decide +kernel
theorem dX6_book_43 : decode cX6_book 43 = .ok (.aload_n 0, 1) := by decide +kernel
theorem dX6_book_44 : decode cX6_book 44 = .ok (.aload_n 0, 1) := by decide +kernel
theorem dX6_book_45 : decode cX6_book 45 = .ok (.getfield 174, 3) := by decide +kernel
theorem dX6_book_48 : decode cX6_book 48 = .ok (.invokevirtual 177, 3) := by decide +kernel
theorem dX6_book_51 : decode cX6_book 51 = .ok (.bipush 59, 2) := by decide +kernel
theorem dX6_book_53 : decode cX6_book 53 = .ok (.if_icmp .ne 7, 3) := by decide +kernel
theorem dX6_book_56 : decode cX6_book 56 = .ok (.iconst 1, 1) := by decide +kernel
theorem dX6_book_57 : decode cX6_book 57 = .ok (.goto 4, 3) := by decide +kernel
theorem dX6_book_60 : decode cX6_book 60 = .ok (.iconst 0, 1) := by decide +kernel
theorem dX6_book_61 : decode cX6_book 61 = .ok (.istore_n 2, 1) := by decide +kernel
theorem dX6_book_62 : decode cX6_book 62 = .ok (.aload_n 0, 1) := by decide +kernel
theorem dX6_book_63 : decode cX6_book 63 = .ok (.dup, 1) := by decide +kernel
theorem dX6_book_64 : decode cX6_book 64 = .ok (.getfield 174, 3) := by decide +kernel
theorem dX6_book_67 : decode cX6_book 67 = .ok (.iload_n 2, 1) := by decide +kernel
theorem dX6_book_68 : decode cX6_book 68 = .ok (.ifCond .eq 7, 3) := by decide +kernel
theorem dX6_book_71 : decode cX6_book 71 = .ok (.iconst 1, 1) := by decide +kernel
theorem dX6_book_72 : decode cX6_book 72 = .ok (.goto 4, 3) := by decide +kernel
theorem dX6_book_75 : decode cX6_book 75 = .ok (.iconst 0, 1) := by decide +kernel
theorem dX6_book_76 : decode cX6_book 76 = .ok (.iadd, 1) := by decide +kernel
theorem dX6_book_77 : decode cX6_book 77 = .ok (.putfield 174, 3) := by decide +kernel
theorem dX6_book_80 : decode cX6_book 80 = .ok (.goto (-55), 3) := by decide +kernel
theorem dX6_book_83 : decode cX6_book 83 = .ok (.aload_n 0, 1) := by decide +kernel
theorem dX6_book_84 : decode cX6_book 84 = .ok (.getfield 180, 3) := by decide +kernel
theorem dX6_book_87 : decode cX6_book 87 = .ok (.ifCond .ge 19, 3) := by decide +kernel
theorem dX6_book_90 : decode cX6_book 90 = .ok (.aload_n 0, 1) := by decide +kernel
theorem dX6_book_91 : decode cX6_book 91 = .ok (.getfield 174, 3) := by decide +kernel
theorem dX6_book_94 : decode cX6_book 94 = .ok (.aload_n 0, 1) := by decide +kernel
theorem dX6_book_95 : decode cX6_book 95 = .ok (.getfield 170, 3) := by decide +kernel
theorem dX6_book_98 : decode cX6_book 98 = .ok (.if_icmp .ge 8, 3) := by decide +kernel
theorem dX6_book_101 : decode cX6_book 101 = .ok (.aload_n 0, 1) := by decide +kernel
theorem dX6_book_102 : decode cX6_book 102 = .ok (.invokevirtual 209, 3) := by decide +kernel
theorem dX6_book_105 : decode cX6_book 105 = .ok (.pop, 1) := by decide +kernel
theorem dX6_book_106 : decode cX6_book 106 = .ok (.aload_n 0, 1) := by decide +kernel
theorem dX6_book_107 : decode cX6_book 107 = .ok (.iconst 0, 1) := by decide +kernel
theorem dX6_book_108 : decode cX6_book 108 = .ok (.putfield 170, 3) := by decide +kernel
theorem dX6_book_111 : decode cX6_book 111 = .ok (.aload_n 0, 1) := by decide +kernel
theorem dX6_book_112 : decode cX6_book 112 = .ok (.getfield 180, 3) := by decide +kernel
theorem dX6_book_115 : decode cX6_book 115 = .ok (.ifCond .lt 21, 3) := by decide +kernel
theorem dX6_book_118 : decode cX6_book 118 = .ok (.aload_n 0, 1) := by decide +kernel
theorem dX6_book_119 : decode cX6_book 119 = .ok (.getfield 16, 3) := by decide +kernel
theorem dX6_book_122 : decode cX6_book 122 = .ok (.aload_n 0, 1) := by decide +kernel
theorem dX6_book_123 : decode cX6_book 123 = .ok (.getfield 9, 3) := by decide +kernel
theorem dX6_book_126 : decode cX6_book 126 = .ok (.invokestatic 274, 3) := by decide +kernel
theorem dX6_book_129 : decode cX6_book 129 = .ok (.iconst (-1), 1) := by decide +kernel
theorem dX6_book_130 : decode cX6_book 130 = .ok (.aload_n 0, 1) := by decide +kernel
theorem dX6_book_131 : decode cX6_book 131 = .ok (.getfield 180, 3) := by decide +kernel
theorem dX6_book_134 : decode cX6_book 134 = .ok (.isub, 1) := by decide +kernel
theorem dX6_book_135 : decode cX6_book 135 = .ok (.ireturn, 1) := by decide +kernel
theorem dX6_book_136 : decode cX6_book 136 = .ok (.iload_n 1, 1) := by decide +kernel
theorem dX6_book_137 : decode cX6_book 137 = .ok (.ireturn, 1) := by decide +kernel
set_option maxRecDepth 20000 in
theorem ggX6_isSheet_X6_in : GoodIn wsX6_isSheet wsX6_in := goodIn_r _ [4] (by decide +kernel) (by decide +kernel)
set_option maxRecDepth 20000 in
theorem gX6_isSheet_X6_in : GoodIn wsX6_isSheet (va_wsS RX6 57 yX6_in wsX6_in) := goodIn_app (goodIn_of _ (by decide +kernel)) ggX6_isSheet_X6_in
theorem dX6_isSheet_0 : decode cX6_isSheet 0 = .ok (.iload_n 0, 1) := by decide +kernel
theorem dX6_isSheet_1 : decode cX6_isSheet 1 = .ok (.iconst 0, 1) := by decide +kernel
theorem dX6_isSheet_2 : decode cX6_isSheet 2 = .ok (.iconst 3, 1) := by decide +kernel
theorem dX6_isSheet_3 : decode cX6_isSheet 3 = .ok (.invokestatic 57, 3) := by decide +kernel
theorem dX6_isSheet_6 : decode cX6_isSheet 6 = .ok (.ireturn, 1) := by decide +kernel
set_option maxRecDepth 20000 in
theorem ggX6_sheet_X6_isSheet : GoodIn wsX6_sheet wsX6_isSheet := goodIn_r _ [7, 8, 9, 6, 10] (by decide +kernel) (by decide +kernel)
set_option maxRecDepth 20000 in
theorem gX6_sheet_X6_isSheet : GoodIn wsX6_sheet (va_wsS RX6 281 yX6_isSheet wsX6_isSheet) := goodIn_app (goodIn_of _ (by decide +kernel)) ggX6_sheet_X6_isSheet
set_option maxRecDepth 20000 in
theorem ggX6_sheet_X6_no : GoodIn wsX6_sheet wsX6_no := goodIn_r _ [14, 15, 16, 17, 18, 19, 20, 21, 22, 23, 24, 25, 26, 27, 28, 29, 30, 31, 32, 33, 34, 35, 36] (by decide +kernel) (by decide +kernel)
set_option maxRecDepth 20000 in
theorem gX6_sheet_X6_no : GoodIn wsX6_sheet (wsV RX6 68 RX6 yX6_no wsX6_no) := goodIn_app (goodIn_of _ (by decide +kernel)) ggX6_sheet_X6_no
theorem dX6_sheet_0 : decode cX6_sheet 0 = .ok (.iload_n 1, 1) := by decide +kernel
theorem dX6_sheet_1 : decode cX6_sheet 1 = .ok (.invokestatic 281, 3) := by decide +kernel
theorem dX6_sheet_4 : decode cX6_sheet 4 = .ok (.ifCond .eq 25, 3) := by decide +kernel
theorem dX6_sheet_7 : decode cX6_sheet 7 = .ok (.iload_n 2, 1) := by decide +kernel
theorem dX6_sheet_8 : decode cX6_sheet 8 = .ok (.ifCond .eq 27, 3) := by decide +kernel
theorem dX6_sheet_11 : decode cX6_sheet 11 = .ok (.iload_n 2, 1) := by decide +kernel
theorem dX6_sheet_12 : decode cX6_sheet 12 = .ok (.bipush 8, 2) := by decide +kernel
theorem dX6_sheet_14 : decode cX6_sheet 14 = .ok (.if_icmp .eq 21, 3) := by decide +kernel
theorem dX6_sheet_17 : decode cX6_sheet 17 = .ok (.iload_n 2, 1) := by decide +kernel
theorem dX6_sheet_18 : decode cX6_sheet 18 = .ok (.bipush 16, 2) := by decide +kernel
theorem dX6_sheet_20 : decode cX6_sheet 20 = .ok (.if_icmp .eq 15, 3) := by decide +kernel
theorem dX6_sheet_23 : decode cX6_sheet 23 = .ok (.iload_n 2, 1) := by decide +kernel
theorem dX6_sheet_24 : decode cX6_sheet 24 = .ok (.bipush 64, 2) := by decide +kernel
theorem dX6_sheet_26 : decode cX6_sheet 26 = .ok (.if_icmp .eq 9, 3) := by decide +kernel
theorem dX6_sheet_29 : decode cX6_sheet 29 = .ok (.aload_n 0, 1) := by decide +kernel
theorem dX6_sheet_30 : decode cX6_sheet 30 = .ok (.iconst 0, 1) := by decide +kernel
theorem dX6_sheet_31 : decode cX6_sheet 31 = .ok (.invokevirtual 68, 3) := by decide +kernel
theorem dX6_sheet_34 : decode cX6_sheet 34 = .ok (.ireturn, 1) := by decide +kernel
theorem dX6_sheet_35 : decode cX6_sheet 35 = .ok (.iload_n 3, 1) := by decide +kernel
theorem dX6_sheet_36 : decode cX6_sheet 36 = .ok (.ifCond .ge 10, 3) := by decide +kernel
theorem dX6_sheet_39 : decode cX6_sheet 39 = .ok (.aload_n 0, 1) := by decide +kernel
theorem dX6_sheet_40 : decode cX6_sheet 40 = .ok (.bipush 6, 2) := by decide +kernel
theorem dX6_sheet_42 : decode cX6_sheet 42 = .ok (.invokevirtual 68, 3) := by decide +kernel
theorem dX6_sheet_45 : decode cX6_sheet 45 = .ok (.ireturn, 1) := by decide +kernel
theorem dX6_sheet_46 : decode cX6_sheet 46 = .ok (.iload_n 3, 1) := by decide +kernel
theorem dX6_sheet_47 : decode cX6_sheet 47 = .ok (.bipush 40, 2) := by decide +kernel
theorem dX6_sheet_49 : decode cX6_sheet 49 = .ok (.if_icmp .le 9, 3) := by decide +kernel
theorem dX6_sheet_52 : decode cX6_sheet 52 = .ok (.aload_n 0, 1) := by decide +kernel
theorem dX6_sheet_53 : decode cX6_sheet 53 = .ok (.iconst 0, 1) := by decide +kernel
theorem dX6_sheet_54 : decode cX6_sheet 54 = .ok (.invokevirtual 68, 3) := by decide +kernel
theorem dX6_sheet_57 : decode cX6_sheet 57 = .ok (.ireturn, 1) := by decide +kernel
theorem dX6_sheet_58 : decode cX6_sheet 58 = .ok (.aload_n 0, 1) := by decide +kernel
theorem dX6_sheet_59 : decode cX6_sheet 59 = .ok (.getfield 44, 3) := by decide +kernel
theorem dX6_sheet_62 : decode cX6_sheet 62 = .ok (.iload_n 1, 1) := by decide +kernel
theorem dX6_sheet_63 : decode cX6_sheet 63 = .ok (.iload_n 2, 1) := by decide +kernel
theorem dX6_sheet_64 : decode cX6_sheet 64 = .ok (.iastore, 1) := by decide +kernel
theorem dX6_sheet_65 : decode cX6_sheet 65 = .ok (.aload_n 0, 1) := by decide +kernel
theorem dX6_sheet_66 : decode cX6_sheet 66 = .ok (.getfield 47, 3) := by decide +kernel
theorem dX6_sheet_69 : decode cX6_sheet 69 = .ok (.iload_n 1, 1) := by decide +kernel
theorem dX6_sheet_70 : decode cX6_sheet 70 = .ok (.iload_n 2, 1) := by decide +kernel
theorem dX6_sheet_71 : decode cX6_sheet 71 = .ok (.ifCond .ne 7, 3) := by decide +kernel
theorem dX6_sheet_74 : decode cX6_sheet 74 = .ok (.iconst 0, 1) := by decide +kernel
theorem dX6_sheet_75 : decode cX6_sheet 75 = .ok (.goto 4, 3) := by decide +kernel
theorem dX6_sheet_78 : decode cX6_sheet 78 = .ok (.iload_n 3, 1) := by decide +kernel
theorem dX6_sheet_79 : decode cX6_sheet 79 = .ok (.iastore, 1) := by decide +kernel
theorem dX6_sheet_80 : decode cX6_sheet 80 = .ok (.iconst 0, 1) := by decide +kernel
theorem dX6_sheet_81 : decode cX6_sheet 81 = .ok (.istore 4, 2) := by decide +kernel
theorem dX6_sheet_83 : decode cX6_sheet 83 = .ok (.iload 4, 2) := by decide +kernel
theorem dX6_sheet_85 : decode cX6_sheet 85 = .ok (.bipush 40, 2) := by decide +kernel
theorem dX6_sheet_87 : decode cX6_sheet 87 = .ok (.if_icmp .ge 22, 3) := by decide +kernel
theorem dX6_sheet_90 : decode cX6_sheet 90 = .ok (.aload_n 0, 1) := by decide +kernel
theorem dX6_sheet_91 : decode cX6_sheet 91 = .ok (.getfield 50, 3) := by decide +kernel
theorem dX6_sheet_94 : decode cX6_sheet 94 = .ok (.bipush 40, 2) := by decide +kernel
theorem dX6_sheet_96 : decode cX6_sheet 96 = .ok (.iload_n 1, 1) := by decide +kernel
theorem dX6_sheet_97 : decode cX6_sheet 97 = .ok (.imul, 1) := by decide +kernel
theorem dX6_sheet_98 : decode cX6_sheet 98 = .ok (.iload 4, 2) := by decide +kernel
theorem dX6_sheet_100 : decode cX6_sheet 100 = .ok (.iadd, 1) := by decide +kernel
theorem dX6_sheet_101 : decode cX6_sheet 101 = .ok (.lconst 0, 1) := by decide +kernel
theorem dX6_sheet_102 : decode cX6_sheet 102 = .ok (.lastore, 1) := by decide +kernel
theorem dX6_sheet_103 : decode cX6_sheet 103 = .ok (.iinc 4 1, 3) := by decide +kernel
theorem dX6_sheet_106 : decode cX6_sheet 106 = .ok (.goto (-23), 3) := by decide +kernel
theorem dX6_sheet_109 : decode cX6_sheet 109 = .ok (.aload_n 0, 1) := by decide +kernel
theorem dX6_sheet_110 : decode cX6_sheet 110 = .ok (.getfield 47, 3) := by decide +kernel
theorem dX6_sheet_113 : decode cX6_sheet 113 = .ok (.iload_n 1, 1) := by decide +kernel
theorem dX6_sheet_114 : decode cX6_sheet 114 = .ok (.iaload, 1) := by decide +kernel
theorem dX6_sheet_115 : decode cX6_sheet 115 = .ok (.ireturn, 1) := by decide +kernel
theorem dX6_writes_0 : decode cX6_writes 0 = .ok (.aload_n 0, 1) := by decide +kernel
theorem dX6_writes_1 : decode cX6_writes 1 = .ok (.getfield 50, 3) := by decide +kernel
theorem dX6_writes_4 : decode cX6_writes 4 = .ok (.bipush 40, 2) := by decide +kernel
theorem dX6_writes_6 : decode cX6_writes 6 = .ok (.iload_n 1, 1) := by decide +kernel
theorem dX6_writes_7 : decode cX6_writes 7 = .ok (.imul, 1) := by decide +kernel
theorem dX6_writes_8 : decode cX6_writes 8 = .ok (.iload_n 2, 1) := by decide +kernel
theorem dX6_writes_9 : decode cX6_writes 9 = .ok (.iadd, 1) := by decide +kernel
theorem dX6_writes_10 : decode cX6_writes 10 = .ok (.aload_n 0, 1) := by decide +kernel
theorem dX6_writes_11 : decode cX6_writes 11 = .ok (.getfield 44, 3) := by decide +kernel
theorem dX6_writes_14 : decode cX6_writes 14 = .ok (.iload_n 1, 1) := by decide +kernel
theorem dX6_writes_15 : decode cX6_writes 15 = .ok (.iaload, 1) := by decide +kernel
theorem dX6_writes_16 : decode cX6_writes 16 = .ok (.bipush 8, 2) := by decide +kernel
theorem dX6_writes_18 : decode cX6_writes 18 = .ok (.if_icmp .ne 10, 3) := by decide +kernel
theorem dX6_writes_21 : decode cX6_writes 21 = .ok (.lload_n 3, 1) := by decide +kernel
theorem dX6_writes_22 : decode cX6_writes 22 = .ok (.l2i, 1) := by decide +kernel
theorem dX6_writes_23 : decode cX6_writes 23 = .ok (.i2b, 1) := by decide +kernel
theorem dX6_writes_24 : decode cX6_writes 24 = .ok (.i2l, 1) := by decide +kernel
theorem dX6_writes_25 : decode cX6_writes 25 = .ok (.goto 22, 3) := by decide +kernel
theorem dX6_writes_28 : decode cX6_writes 28 = .ok (.aload_n 0, 1) := by decide +kernel
theorem dX6_writes_29 : decode cX6_writes 29 = .ok (.getfield 44, 3) := by decide +kernel
theorem dX6_writes_32 : decode cX6_writes 32 = .ok (.iload_n 1, 1) := by decide +kernel
theorem dX6_writes_33 : decode cX6_writes 33 = .ok (.iaload, 1) := by decide +kernel
theorem dX6_writes_34 : decode cX6_writes 34 = .ok (.bipush 16, 2) := by decide +kernel
theorem dX6_writes_36 : decode cX6_writes 36 = .ok (.if_icmp .ne 10, 3) := by decide +kernel
theorem dX6_writes_39 : decode cX6_writes 39 = .ok (.lload_n 3, 1) := by decide +kernel
theorem dX6_writes_40 : decode cX6_writes 40 = .ok (.l2i, 1) := by decide +kernel
theorem dX6_writes_41 : decode cX6_writes 41 = .ok (.i2s, 1) := by decide +kernel
theorem dX6_writes_42 : decode cX6_writes 42 = .ok (.i2l, 1) := by decide +kernel
theorem dX6_writes_43 : decode cX6_writes 43 = .ok (.goto 4, 3) := by decide +kernel
theorem dX6_writes_46 : decode cX6_writes 46 = .ok (.lload_n 3, 1) := by decide +kernel
theorem dX6_writes_47 : decode cX6_writes 47 = .ok (.lastore, 1) := by decide +kernel
theorem dX6_writes_48 : decode cX6_writes 48 = .ok (.return_, 1) := by decide +kernel
set_option maxRecDepth 20000 in
theorem ggX6_write_X6_isSheet : GoodIn wsX6_write wsX6_isSheet := goodIn_r _ [7, 8, 9, 6, 10] (by decide +kernel) (by decide +kernel)
set_option maxRecDepth 20000 in
theorem gX6_write_X6_isSheet : GoodIn wsX6_write (va_wsS RX6 281 yX6_isSheet wsX6_isSheet) := goodIn_app (goodIn_of _ (by decide +kernel)) ggX6_write_X6_isSheet
set_option maxRecDepth 20000 in
theorem ggX6_write_X6_no : GoodIn wsX6_write wsX6_no := goodIn_r _ [14, 15, 16, 21, 22, 23, 24, 25, 26, 27, 28, 29, 30, 31, 32, 33, 34, 35, 36, 37, 38, 39, 40] (by decide +kernel) (by decide +kernel)
set_option maxRecDepth 20000 in
theorem gX6_write_X6_no : GoodIn wsX6_write (wsV RX6 68 RX6 yX6_no wsX6_no) := goodIn_app (goodIn_of _ (by decide +kernel)) ggX6_write_X6_no
set_option maxRecDepth 20000 in
theorem ggX6_write_X6_in : GoodIn wsX6_write wsX6_in := goodIn_r _ [10] (by decide +kernel) (by decide +kernel)
set_option maxRecDepth 20000 in
theorem gX6_write_X6_in : GoodIn wsX6_write (va_wsS RX6 57 yX6_in wsX6_in) := goodIn_app (goodIn_of _ (by decide +kernel)) ggX6_write_X6_in
set_option maxRecDepth 20000 in
theorem ggX6_write_X6_writes : GoodIn wsX6_write wsX6_writes := goodIn_r _ [20, 3, 1, 21, 22, 23, 24, 25, 26, 27, 28, 29, 30, 31, 32, 33, 34, 35, 36, 37, 38, 39, 40] (by decide +kernel) (by decide +kernel)
set_option maxRecDepth 20000 in
theorem gX6_write_X6_writes : GoodIn wsX6_write (wsV RX6 284 RX6 yX6_writes wsX6_writes) := goodIn_app (goodIn_of _ (by decide +kernel)) ggX6_write_X6_writes
theorem dX6_write_0 : decode cX6_write 0 = .ok (.iload_n 1, 1) := by decide +kernel
theorem dX6_write_1 : decode cX6_write 1 = .ok (.invokestatic 281, 3) := by decide +kernel
theorem dX6_write_4 : decode cX6_write 4 = .ok (.ifCond .ne 10, 3) := by decide +kernel
theorem dX6_write_7 : decode cX6_write 7 = .ok (.aload_n 0, 1) := by decide +kernel
theorem dX6_write_8 : decode cX6_write 8 = .ok (.iconst 0, 1) := by decide +kernel
theorem dX6_write_9 : decode cX6_write 9 = .ok (.invokevirtual 68, 3) := by decide +kernel
theorem dX6_write_12 : decode cX6_write 12 = .ok (.i2l, 1) := by decide +kernel
theorem dX6_write_13 : decode cX6_write 13 = .ok (.lreturn, 1) := by decide +kernel
theorem dX6_write_14 : decode cX6_write 14 = .ok (.aload_n 0, 1) := by decide +kernel
theorem dX6_write_15 : decode cX6_write 15 = .ok (.getfield 44, 3) := by decide +kernel
theorem dX6_write_18 : decode cX6_write 18 = .ok (.iload_n 1, 1) := by decide +kernel
theorem dX6_write_19 : decode cX6_write 19 = .ok (.iaload, 1) := by decide +kernel
theorem dX6_write_20 : decode cX6_write 20 = .ok (.ifCond .ne 10, 3) := by decide +kernel
theorem dX6_write_23 : decode cX6_write 23 = .ok (.aload_n 0, 1) := by decide +kernel
theorem dX6_write_24 : decode cX6_write 24 = .ok (.iconst 5, 1) := by decide +kernel
theorem dX6_write_25 : decode cX6_write 25 = .ok (.invokevirtual 68, 3) := by decide +kernel
theorem dX6_write_28 : decode cX6_write 28 = .ok (.i2l, 1) := by decide +kernel
theorem dX6_write_29 : decode cX6_write 29 = .ok (.lreturn, 1) := by decide +kernel
theorem dX6_write_30 : decode cX6_write 30 = .ok (.iload_n 2, 1) := by decide +kernel
theorem dX6_write_31 : decode cX6_write 31 = .ok (.iconst 0, 1) := by decide +kernel
theorem dX6_write_32 : decode cX6_write 32 = .ok (.aload_n 0, 1) := by decide +kernel
theorem dX6_write_33 : decode cX6_write 33 = .ok (.getfield 47, 3) := by decide +kernel
theorem dX6_write_36 : decode cX6_write 36 = .ok (.iload_n 1, 1) := by decide +kernel
theorem dX6_write_37 : decode cX6_write 37 = .ok (.iaload, 1) := by decide +kernel
theorem dX6_write_38 : decode cX6_write 38 = .ok (.iconst 1, 1) := by decide +kernel
theorem dX6_write_39 : decode cX6_write 39 = .ok (.isub, 1) := by decide +kernel
theorem dX6_write_40 : decode cX6_write 40 = .ok (.invokestatic 57, 3) := by decide +kernel
theorem dX6_write_43 : decode cX6_write 43 = .ok (.ifCond .ne 10, 3) := by decide +kernel
theorem dX6_write_46 : decode cX6_write 46 = .ok (.aload_n 0, 1) := by decide +kernel
theorem dX6_write_47 : decode cX6_write 47 = .ok (.iconst 0, 1) := by decide +kernel
theorem dX6_write_48 : decode cX6_write 48 = .ok (.invokevirtual 68, 3) := by decide +kernel
theorem dX6_write_51 : decode cX6_write 51 = .ok (.i2l, 1) := by decide +kernel
theorem dX6_write_52 : decode cX6_write 52 = .ok (.lreturn, 1) := by decide +kernel
theorem dX6_write_53 : decode cX6_write 53 = .ok (.aload_n 0, 1) := by decide +kernel
theorem dX6_write_54 : decode cX6_write 54 = .ok (.getfield 50, 3) := by decide +kernel
theorem dX6_write_57 : decode cX6_write 57 = .ok (.bipush 40, 2) := by decide +kernel
theorem dX6_write_59 : decode cX6_write 59 = .ok (.iload_n 1, 1) := by decide +kernel
theorem dX6_write_60 : decode cX6_write 60 = .ok (.imul, 1) := by decide +kernel
theorem dX6_write_61 : decode cX6_write 61 = .ok (.iload_n 2, 1) := by decide +kernel
theorem dX6_write_62 : decode cX6_write 62 = .ok (.iadd, 1) := by decide +kernel
theorem dX6_write_63 : decode cX6_write 63 = .ok (.laload, 1) := by decide +kernel
theorem dX6_write_64 : decode cX6_write 64 = .ok (.lstore 5, 2) := by decide +kernel
theorem dX6_write_66 : decode cX6_write 66 = .ok (.aload_n 0, 1) := by decide +kernel
theorem dX6_write_67 : decode cX6_write 67 = .ok (.iload_n 1, 1) := by decide +kernel
theorem dX6_write_68 : decode cX6_write 68 = .ok (.iload_n 2, 1) := by decide +kernel
theorem dX6_write_69 : decode cX6_write 69 = .ok (.lload_n 3, 1) := by decide +kernel
theorem dX6_write_70 : decode cX6_write 70 = .ok (.invokevirtual 284, 3) := by decide +kernel
theorem dX6_write_73 : decode cX6_write 73 = .ok (.lload 5, 2) := by decide +kernel
theorem dX6_write_75 : decode cX6_write 75 = .ok (.lreturn, 1) := by decide +kernel
set_option maxRecDepth 20000 in
theorem ggX6_copy_X6_isSheet : GoodIn wsX6_copy wsX6_isSheet := goodIn_r _ [8, 9, 10, 7, 11] (by decide +kernel) (by decide +kernel)
set_option maxRecDepth 20000 in
theorem gX6_copy_X6_isSheet : GoodIn wsX6_copy (va_wsS RX6 281 yX6_isSheet wsX6_isSheet) := goodIn_app (goodIn_of _ (by decide +kernel)) ggX6_copy_X6_isSheet
set_option maxRecDepth 20000 in
theorem ggX6_copy_X6_no : GoodIn wsX6_copy wsX6_no := goodIn_r _ [15, 16, 17, 18, 19, 20, 21, 22, 23, 24, 25, 26, 27, 28, 29, 30, 31, 32, 33, 34, 35, 36, 37] (by decide +kernel) (by decide +kernel)
set_option maxRecDepth 20000 in
theorem gX6_copy_X6_no : GoodIn wsX6_copy (wsV RX6 68 RX6 yX6_no wsX6_no) := goodIn_app (goodIn_of _ (by decide +kernel)) ggX6_copy_X6_no
theorem dX6_copy_0 : decode cX6_copy 0 = .ok (.iload_n 1, 1) := by decide +kernel
theorem dX6_copy_1 : decode cX6_copy 1 = .ok (.invokestatic 281, 3) := by decide +kernel
theorem dX6_copy_4 : decode cX6_copy 4 = .ok (.ifCond .eq 10, 3) := by decide +kernel
theorem dX6_copy_7 : decode cX6_copy 7 = .ok (.iload_n 3, 1) := by decide +kernel
theorem dX6_copy_8 : decode cX6_copy 8 = .ok (.invokestatic 281, 3) := by decide +kernel
theorem dX6_copy_11 : decode cX6_copy 11 = .ok (.ifCond .ne 9, 3) := by decide +kernel
theorem dX6_copy_14 : decode cX6_copy 14 = .ok (.aload_n 0, 1) := by decide +kernel
theorem dX6_copy_15 : decode cX6_copy 15 = .ok (.iconst 0, 1) := by decide +kernel
theorem dX6_copy_16 : decode cX6_copy 16 = .ok (.invokevirtual 68, 3) := by decide +kernel
theorem dX6_copy_19 : decode cX6_copy 19 = .ok (.ireturn, 1) := by decide +kernel
theorem dX6_copy_20 : decode cX6_copy 20 = .ok (.aload_n 0, 1) := by decide +kernel
theorem dX6_copy_21 : decode cX6_copy 21 = .ok (.getfield 44, 3) := by decide +kernel
theorem dX6_copy_24 : decode cX6_copy 24 = .ok (.iload_n 1, 1) := by decide +kernel
theorem dX6_copy_25 : decode cX6_copy 25 = .ok (.iaload, 1) := by decide +kernel
theorem dX6_copy_26 : decode cX6_copy 26 = .ok (.ifCond .eq 12, 3) := by decide +kernel
theorem dX6_copy_29 : decode cX6_copy 29 = .ok (.aload_n 0, 1) := by decide +kernel
theorem dX6_copy_30 : decode cX6_copy 30 = .ok (.getfield 44, 3) := by decide +kernel
theorem dX6_copy_33 : decode cX6_copy 33 = .ok (.iload_n 3, 1) := by decide +kernel
theorem dX6_copy_34 : decode cX6_copy 34 = .ok (.iaload, 1) := by decide +kernel
theorem dX6_copy_35 : decode cX6_copy 35 = .ok (.ifCond .ne 9, 3) := by decide +kernel
theorem dX6_copy_38 : decode cX6_copy 38 = .ok (.aload_n 0, 1) := by decide +kernel
theorem dX6_copy_39 : decode cX6_copy 39 = .ok (.iconst 5, 1) := by decide +kernel
theorem dX6_copy_40 : decode cX6_copy 40 = .ok (.invokevirtual 68, 3) := by decide +kernel
theorem dX6_copy_43 : decode cX6_copy 43 = .ok (.ireturn, 1) := by decide +kernel
theorem dX6_copy_44 : decode cX6_copy 44 = .ok (.aload_n 0, 1) := by decide +kernel
theorem dX6_copy_45 : decode cX6_copy 45 = .ok (.getfield 44, 3) := by decide +kernel
theorem dX6_copy_48 : decode cX6_copy 48 = .ok (.iload_n 1, 1) := by decide +kernel
theorem dX6_copy_49 : decode cX6_copy 49 = .ok (.iaload, 1) := by decide +kernel
theorem dX6_copy_50 : decode cX6_copy 50 = .ok (.aload_n 0, 1) := by decide +kernel
theorem dX6_copy_51 : decode cX6_copy 51 = .ok (.getfield 44, 3) := by decide +kernel
theorem dX6_copy_54 : decode cX6_copy 54 = .ok (.iload_n 3, 1) := by decide +kernel
theorem dX6_copy_55 : decode cX6_copy 55 = .ok (.iaload, 1) := by decide +kernel
theorem dX6_copy_56 : decode cX6_copy 56 = .ok (.if_icmp .eq 9, 3) := by decide +kernel
theorem dX6_copy_59 : decode cX6_copy 59 = .ok (.aload_n 0, 1) := by decide +kernel
theorem dX6_copy_60 : decode cX6_copy 60 = .ok (.iconst 2, 1) := by decide +kernel
theorem dX6_copy_61 : decode cX6_copy 61 = .ok (.invokevirtual 68, 3) := by decide +kernel
theorem dX6_copy_64 : decode cX6_copy 64 = .ok (.ireturn, 1) := by decide +kernel
theorem dX6_copy_65 : decode cX6_copy 65 = .ok (.iload 5, 2) := by decide +kernel
theorem dX6_copy_67 : decode cX6_copy 67 = .ok (.ifCond .lt 39, 3) := by decide +kernel
theorem dX6_copy_70 : decode cX6_copy 70 = .ok (.iload_n 2, 1) := by decide +kernel
theorem dX6_copy_71 : decode cX6_copy 71 = .ok (.ifCond .lt 35, 3) := by decide +kernel
theorem dX6_copy_74 : decode cX6_copy 74 = .ok (.iload 4, 2) := by decide +kernel
theorem dX6_copy_76 : decode cX6_copy 76 = .ok (.ifCond .lt 30, 3) := by decide +kernel
theorem dX6_copy_79 : decode cX6_copy 79 = .ok (.iload_n 2, 1) := by decide +kernel
theorem dX6_copy_80 : decode cX6_copy 80 = .ok (.aload_n 0, 1) := by decide +kernel
theorem dX6_copy_81 : decode cX6_copy 81 = .ok (.getfield 47, 3) := by decide +kernel
theorem dX6_copy_84 : decode cX6_copy 84 = .ok (.iload_n 1, 1) := by decide +kernel
theorem dX6_copy_85 : decode cX6_copy 85 = .ok (.iaload, 1) := by decide +kernel
theorem dX6_copy_86 : decode cX6_copy 86 = .ok (.iload 5, 2) := by decide +kernel
theorem dX6_copy_88 : decode cX6_copy 88 = .ok (.isub, 1) := by decide +kernel
theorem dX6_copy_89 : decode cX6_copy 89 = .ok (.if_icmp .gt 17, 3) := by decide +kernel
theorem dX6_copy_92 : decode cX6_copy 92 = .ok (.iload 4, 2) := by decide +kernel
theorem dX6_copy_94 : decode cX6_copy 94 = .ok (.aload_n 0, 1) := by decide +kernel
theorem dX6_copy_95 : decode cX6_copy 95 = .ok (.getfield 47, 3) := by decide +kernel
theorem dX6_copy_98 : decode cX6_copy 98 = .ok (.iload_n 3, 1) := by decide +kernel
theorem dX6_copy_99 : decode cX6_copy 99 = .ok (.iaload, 1) := by decide +kernel
theorem dX6_copy_100 : decode cX6_copy 100 = .ok (.iload 5, 2) := by decide +kernel
theorem dX6_copy_102 : decode cX6_copy 102 = .ok (.isub, 1) := by decide +kernel
theorem dX6_copy_103 : decode cX6_copy 103 = .ok (.if_icmp .le 9, 3) := by decide +kernel
theorem dX6_copy_106 : decode cX6_copy 106 = .ok (.aload_n 0, 1) := by decide +kernel
theorem dX6_copy_107 : decode cX6_copy 107 = .ok (.iconst 0, 1) := by decide +kernel
theorem dX6_copy_108 : decode cX6_copy 108 = .ok (.invokevirtual 68, 3) := by decide +kernel
theorem dX6_copy_111 : decode cX6_copy 111 = .ok (.ireturn, 1) := by decide +kernel
theorem dX6_copy_112 : decode cX6_copy 112 = .ok (.iconst 0, 1) := by decide +kernel
theorem dX6_copy_113 : decode cX6_copy 113 = .ok (.istore 6, 2) := by decide +kernel
theorem dX6_copy_115 : decode cX6_copy 115 = .ok (.iload 6, 2) := by decide +kernel
theorem dX6_copy_117 : decode cX6_copy 117 = .ok (.iload 5, 2) := by decide +kernel
theorem dX6_copy_119 : decode cX6_copy 119 = .ok (.if_icmp .ge 30, 3) := by decide +kernel
theorem dX6_copy_122 : decode cX6_copy 122 = .ok (.aload_n 0, 1) := by decide +kernel
theorem dX6_copy_123 : decode cX6_copy 123 = .ok (.getfield 53, 3) := by decide +kernel
theorem dX6_copy_126 : decode cX6_copy 126 = .ok (.iload 6, 2) := by decide +kernel
theorem dX6_copy_128 : decode cX6_copy 128 = .ok (.aload_n 0, 1) := by decide +kernel
theorem dX6_copy_129 : decode cX6_copy 129 = .ok (.getfield 50, 3) := by decide +kernel
theorem dX6_copy_132 : decode cX6_copy 132 = .ok (.bipush 40, 2) := by decide +kernel
theorem dX6_copy_134 : decode cX6_copy 134 = .ok (.iload_n 1, 1) := by decide +kernel
theorem dX6_copy_135 : decode cX6_copy 135 = .ok (.imul, 1) := by decide +kernel
theorem dX6_copy_136 : decode cX6_copy 136 = .ok (.iload_n 2, 1) := by decide +kernel
theorem dX6_copy_137 : decode cX6_copy 137 = .ok (.iadd, 1) := by decide +kernel
theorem dX6_copy_138 : decode cX6_copy 138 = .ok (.iload 6, 2) := by decide +kernel
theorem dX6_copy_140 : decode cX6_copy 140 = .ok (.iadd, 1) := by decide +kernel
theorem dX6_copy_141 : decode cX6_copy 141 = .ok (.laload, 1) := by decide +kernel
theorem dX6_copy_142 : decode cX6_copy 142 = .ok (.lastore, 1) := by decide +kernel
theorem dX6_copy_143 : decode cX6_copy 143 = .ok (.iinc 6 1, 3) := by decide +kernel
theorem dX6_copy_146 : decode cX6_copy 146 = .ok (.goto (-31), 3) := by decide +kernel
theorem dX6_copy_149 : decode cX6_copy 149 = .ok (.iconst 0, 1) := by decide +kernel
theorem dX6_copy_150 : decode cX6_copy 150 = .ok (.istore 6, 2) := by decide +kernel
theorem dX6_copy_152 : decode cX6_copy 152 = .ok (.iload 6, 2) := by decide +kernel
theorem dX6_copy_154 : decode cX6_copy 154 = .ok (.iload 5, 2) := by decide +kernel
theorem dX6_copy_156 : decode cX6_copy 156 = .ok (.if_icmp .ge 31, 3) := by decide +kernel
theorem dX6_copy_159 : decode cX6_copy 159 = .ok (.aload_n 0, 1) := by decide +kernel
theorem dX6_copy_160 : decode cX6_copy 160 = .ok (.getfield 50, 3) := by decide +kernel
theorem dX6_copy_163 : decode cX6_copy 163 = .ok (.bipush 40, 2) := by decide +kernel
theorem dX6_copy_165 : decode cX6_copy 165 = .ok (.iload_n 3, 1) := by decide +kernel
theorem dX6_copy_166 : decode cX6_copy 166 = .ok (.imul, 1) := by decide +kernel
theorem dX6_copy_167 : decode cX6_copy 167 = .ok (.iload 4, 2) := by decide +kernel
theorem dX6_copy_169 : decode cX6_copy 169 = .ok (.iadd, 1) := by decide +kernel
theorem dX6_copy_170 : decode cX6_copy 170 = .ok (.iload 6, 2) := by decide +kernel
theorem dX6_copy_172 : decode cX6_copy 172 = .ok (.iadd, 1) := by decide +kernel
theorem dX6_copy_173 : decode cX6_copy 173 = .ok (.aload_n 0, 1) := by decide +kernel
theorem dX6_copy_174 : decode cX6_copy 174 = .ok (.getfield 53, 3) := by decide +kernel
theorem dX6_copy_177 : decode cX6_copy 177 = .ok (.iload 6, 2) := by decide +kernel
theorem dX6_copy_179 : decode cX6_copy 179 = .ok (.laload, 1) := by decide +kernel
theorem dX6_copy_180 : decode cX6_copy 180 = .ok (.lastore, 1) := by decide +kernel
theorem dX6_copy_181 : decode cX6_copy 181 = .ok (.iinc 6 1, 3) := by decide +kernel
theorem dX6_copy_184 : decode cX6_copy 184 = .ok (.goto (-32), 3) := by decide +kernel
theorem dX6_copy_187 : decode cX6_copy 187 = .ok (.iload 5, 2) := by decide +kernel
theorem dX6_copy_189 : decode cX6_copy 189 = .ok (.ireturn, 1) := by decide +kernel
set_option maxRecDepth 20000 in
theorem ggX6_lays_X6_isSheet : GoodIn wsX6_lays wsX6_isSheet := goodIn_r _ [9, 10, 11, 8, 12] (by decide +kernel) (by decide +kernel)
set_option maxRecDepth 20000 in
theorem gX6_lays_X6_isSheet : GoodIn wsX6_lays (va_wsS RX6 281 yX6_isSheet wsX6_isSheet) := goodIn_app (goodIn_of _ (by decide +kernel)) ggX6_lays_X6_isSheet
set_option maxRecDepth 20000 in
theorem ggX6_lays_X6_no : GoodIn wsX6_lays wsX6_no := goodIn_r _ [16, 17, 18, 23, 24, 25, 26, 27, 28, 29, 30, 31, 32, 33, 34, 35, 36, 37, 38, 39, 40, 41, 42] (by decide +kernel) (by decide +kernel)
set_option maxRecDepth 20000 in
theorem gX6_lays_X6_no : GoodIn wsX6_lays (wsV RX6 68 RX6 yX6_no wsX6_no) := goodIn_app (goodIn_of _ (by decide +kernel)) ggX6_lays_X6_no
set_option maxRecDepth 20000 in
theorem ggX6_lays_X6_isHearer : GoodIn wsX6_lays wsX6_isHearer := goodIn_r _ [22, 5, 10, 11, 8, 12, 23, 24, 25, 26, 27, 28, 29, 30, 31, 32, 33, 34, 35, 36, 37, 38, 39, 40, 41, 42] (by decide +kernel) (by decide +kernel)
set_option maxRecDepth 20000 in
theorem gX6_lays_X6_isHearer : GoodIn wsX6_lays (wsV RX6 138 RX6 yX6_isHearer wsX6_isHearer) := goodIn_app (goodIn_of _ (by decide +kernel)) ggX6_lays_X6_isHearer
theorem dX6_lays_0 : decode cX6_lays 0 = .ok (.iload_n 1, 1) := by decide +kernel
theorem dX6_lays_1 : decode cX6_lays 1 = .ok (.invokestatic 281, 3) := by decide +kernel
theorem dX6_lays_4 : decode cX6_lays 4 = .ok (.ifCond .ne 9, 3) := by decide +kernel
theorem dX6_lays_7 : decode cX6_lays 7 = .ok (.aload_n 0, 1) := by decide +kernel
theorem dX6_lays_8 : decode cX6_lays 8 = .ok (.iconst 0, 1) := by decide +kernel
theorem dX6_lays_9 : decode cX6_lays 9 = .ok (.invokevirtual 68, 3) := by decide +kernel
theorem dX6_lays_12 : decode cX6_lays 12 = .ok (.ireturn, 1) := by decide +kernel
theorem dX6_lays_13 : decode cX6_lays 13 = .ok (.aload_n 0, 1) := by decide +kernel
theorem dX6_lays_14 : decode cX6_lays 14 = .ok (.getfield 44, 3) := by decide +kernel
theorem dX6_lays_17 : decode cX6_lays 17 = .ok (.iload_n 1, 1) := by decide +kernel
theorem dX6_lays_18 : decode cX6_lays 18 = .ok (.iaload, 1) := by decide +kernel
theorem dX6_lays_19 : decode cX6_lays 19 = .ok (.ifCond .ne 9, 3) := by decide +kernel
theorem dX6_lays_22 : decode cX6_lays 22 = .ok (.aload_n 0, 1) := by decide +kernel
theorem dX6_lays_23 : decode cX6_lays 23 = .ok (.iconst 5, 1) := by decide +kernel
theorem dX6_lays_24 : decode cX6_lays 24 = .ok (.invokevirtual 68, 3) := by decide +kernel
theorem dX6_lays_27 : decode cX6_lays 27 = .ok (.ireturn, 1) := by decide +kernel
theorem dX6_lays_28 : decode cX6_lays 28 = .ok (.iconst 0, 1) := by decide +kernel
theorem dX6_lays_29 : decode cX6_lays 29 = .ok (.istore_n 2, 1) := by decide +kernel
theorem dX6_lays_30 : decode cX6_lays 30 = .ok (.iconst 0, 1) := by decide +kernel
theorem dX6_lays_31 : decode cX6_lays 31 = .ok (.istore_n 3, 1) := by decide +kernel
theorem dX6_lays_32 : decode cX6_lays 32 = .ok (.iload_n 3, 1) := by decide +kernel
theorem dX6_lays_33 : decode cX6_lays 33 = .ok (.aload_n 0, 1) := by decide +kernel
theorem dX6_lays_34 : decode cX6_lays 34 = .ok (.getfield 47, 3) := by decide +kernel
theorem dX6_lays_37 : decode cX6_lays 37 = .ok (.iload_n 1, 1) := by decide +kernel
theorem dX6_lays_38 : decode cX6_lays 38 = .ok (.iaload, 1) := by decide +kernel
theorem dX6_lays_39 : decode cX6_lays 39 = .ok (.if_icmp .ge 62, 3) := by decide +kernel
theorem dX6_lays_42 : decode cX6_lays 42 = .ok (.aload_n 0, 1) := by decide +kernel
theorem dX6_lays_43 : decode cX6_lays 43 = .ok (.iload_n 3, 1) := by decide +kernel
theorem dX6_lays_44 : decode cX6_lays 44 = .ok (.invokevirtual 138, 3) := by decide +kernel
theorem dX6_lays_47 : decode cX6_lays 47 = .ok (.ifCond .eq 54, 3) := by decide +kernel
theorem dX6_lays_50 : decode cX6_lays 50 = .ok (.aload_n 0, 1) := by decide +kernel
theorem dX6_lays_51 : decode cX6_lays 51 = .ok (.getfield 50, 3) := by decide +kernel
theorem dX6_lays_54 : decode cX6_lays 54 = .ok (.bipush 40, 2) := by decide +kernel
theorem dX6_lays_56 : decode cX6_lays 56 = .ok (.iload_n 1, 1) := by decide +kernel
theorem dX6_lays_57 : decode cX6_lays 57 = .ok (.imul, 1) := by decide +kernel
theorem dX6_lays_58 : decode cX6_lays 58 = .ok (.iload_n 3, 1) := by decide +kernel
theorem dX6_lays_59 : decode cX6_lays 59 = .ok (.iadd, 1) := by decide +kernel
theorem dX6_lays_60 : decode cX6_lays 60 = .ok (.laload, 1) := by decide +kernel
theorem dX6_lays_61 : decode cX6_lays 61 = .ok (.lstore 4, 2) := by decide +kernel
theorem dX6_lays_63 : decode cX6_lays 63 = .ok (.lload 4, 2) := by decide +kernel
theorem dX6_lays_65 : decode cX6_lays 65 = .ok (.lconst 0, 1) := by decide +kernel
theorem dX6_lays_66 : decode cX6_lays 66 = .ok (.lcmp, 1) := by decide +kernel
theorem dX6_lays_67 : decode cX6_lays 67 = .ok (.ifCond .lt 28, 3) := by decide +kernel
theorem dX6_lays_70 : decode cX6_lays 70 = .ok (.lload 4, 2) := by decide +kernel
theorem dX6_lays_72 : decode cX6_lays 72 = .ok (.ldc2_w 288, 3) := by decide +kernel
theorem dX6_lays_75 : decode cX6_lays 75 = .ok (.lcmp, 1) := by decide +kernel
theorem dX6_lays_76 : decode cX6_lays 76 = .ok (.ifCond .gt 19, 3) := by decide +kernel
theorem dX6_lays_79 : decode cX6_lays 79 = .ok (.aload_n 0, 1) := by decide +kernel
theorem dX6_lays_80 : decode cX6_lays 80 = .ok (.getfield 9, 3) := by decide +kernel
theorem dX6_lays_83 : decode cX6_lays 83 = .ok (.sipush 156, 3) := by decide +kernel
theorem dX6_lays_86 : decode cX6_lays 86 = .ok (.iload_n 3, 1) := by decide +kernel
theorem dX6_lays_87 : decode cX6_lays 87 = .ok (.iadd, 1) := by decide +kernel
theorem dX6_lays_88 : decode cX6_lays 88 = .ok (.lload 4, 2) := by decide +kernel
theorem dX6_lays_90 : decode cX6_lays 90 = .ok (.l2i, 1) := by decide +kernel
theorem dX6_lays_91 : decode cX6_lays 91 = .ok (.iastore, 1) := by decide +kernel
theorem dX6_lays_92 : decode cX6_lays 92 = .ok (.iinc 2 1, 3) := by decide +kernel
theorem dX6_lays_95 : decode cX6_lays 95 = .ok (.iinc 3 1, 3) := by decide +kernel
theorem dX6_lays_98 : decode cX6_lays 98 = .ok (.goto (-66), 3) := by decide +kernel
theorem dX6_lays_101 : decode cX6_lays 101 = .ok (.iload_n 2, 1) := by decide +kernel
theorem dX6_lays_102 : decode cX6_lays 102 = .ok (.ireturn, 1) := by decide +kernel
set_option maxRecDepth 20000 in
theorem ggX6_say_X6_isSheet : GoodIn wsX6_say wsX6_isSheet := goodIn_r _ [7, 8, 9, 6, 10] (by decide +kernel) (by decide +kernel)
set_option maxRecDepth 20000 in
theorem gX6_say_X6_isSheet : GoodIn wsX6_say (va_wsS RX6 281 yX6_isSheet wsX6_isSheet) := goodIn_app (goodIn_of _ (by decide +kernel)) ggX6_say_X6_isSheet
set_option maxRecDepth 20000 in
theorem ggX6_say_X6_no : GoodIn wsX6_say wsX6_no := goodIn_r _ [14, 15, 16, 67, 68, 69, 70, 71, 72, 73, 74, 75, 76, 77, 78, 79, 80, 81, 82, 83, 84, 85, 86] (by decide +kernel) (by decide +kernel)
set_option maxRecDepth 20000 in
theorem gX6_say_X6_no : GoodIn wsX6_say (wsV RX6 68 RX6 yX6_no wsX6_no) := goodIn_app (goodIn_of _ (by decide +kernel)) ggX6_say_X6_no
set_option maxRecDepth 20000 in
theorem ggX6_say_X6_isTale : GoodIn wsX6_say wsX6_isTale := goodIn_r _ [20, 21, 8, 9, 6, 10, 67, 68, 69, 70, 71, 72, 73, 74, 75, 76, 77, 78, 79, 80, 81, 82, 83, 84, 85, 86] (by decide +kernel) (by decide +kernel)
set_option maxRecDepth 20000 in
theorem gX6_say_X6_isTale : GoodIn wsX6_say (wsV RX6 102 RX6 yX6_isTale wsX6_isTale) := goodIn_app (goodIn_of _ (by decide +kernel)) ggX6_say_X6_isTale
set_option maxRecDepth 20000 in
theorem ggX6_say_X6_isWords : GoodIn wsX6_say wsX6_isWords := goodIn_r _ [24, 8, 9, 6, 10] (by decide +kernel) (by decide +kernel)
set_option maxRecDepth 20000 in
theorem gX6_say_X6_isWords : GoodIn wsX6_say (va_wsS RX6 118 yX6_isWords wsX6_isWords) := goodIn_app (goodIn_of _ (by decide +kernel)) ggX6_say_X6_isWords
set_option maxRecDepth 20000 in
theorem ggX6_say_X6_says : GoodIn wsX6_say wsX6_says := goodIn_r _ [28, 29, 3, 30, 31, 32, 6, 33, 34, 35, 36, 37, 38, 21, 39, 40, 41, 42, 43, 44, 45, 46, 47, 48, 49, 50, 51, 52, 53, 54, 55, 56, 57, 58, 59, 60, 61, 67, 68, 69, 70, 71, 72, 73, 74, 75, 76, 77, 78, 79, 80, 81, 82, 83, 84, 85, 86] (by decide +kernel) (by decide +kernel)
set_option maxRecDepth 20000 in
theorem gX6_say_X6_says : GoodIn wsX6_say (wsV RX6 132 RX6 yX6_says wsX6_says) := goodIn_app (goodIn_of _ (by decide +kernel)) ggX6_say_X6_says
set_option maxRecDepth 20000 in
theorem ggX6_say_X6_long_ : GoodIn wsX6_say wsX6_long_ := goodIn_r _ [38, 21, 67, 68, 69, 70, 71, 72, 73, 74, 75, 76, 77, 78, 79, 80, 81, 82, 83, 84, 85, 86] (by decide +kernel) (by decide +kernel)
set_option maxRecDepth 20000 in
theorem gX6_say_X6_long_ : GoodIn wsX6_say (wsV RX6 105 RX6 yX6_long_ wsX6_long_) := goodIn_app (goodIn_of _ (by decide +kernel)) ggX6_say_X6_long_
set_option maxRecDepth 20000 in
theorem ggX6_say_X6_writes : GoodIn wsX6_say wsX6_writes := goodIn_r _ [65, 66, 1, 67, 68, 69, 70, 71, 72, 73, 74, 75, 76, 77, 78, 79, 80, 81, 82, 83, 84, 85, 86] (by decide +kernel) (by decide +kernel)
set_option maxRecDepth 20000 in
theorem gX6_say_X6_writes : GoodIn wsX6_say (wsV RX6 284 RX6 yX6_writes wsX6_writes) := goodIn_app (goodIn_of _ (by decide +kernel)) ggX6_say_X6_writes
theorem dX6_say_0 : decode cX6_say 0 = .ok (.iload_n 1, 1) := by decide +kernel
theorem dX6_say_1 : decode cX6_say 1 = .ok (.invokestatic 281, 3) := by decide +kernel
theorem dX6_say_4 : decode cX6_say 4 = .ok (.ifCond .ne 9, 3) := by decide +kernel
theorem dX6_say_7 : decode cX6_say 7 = .ok (.aload_n 0, 1) := by decide +kernel
theorem dX6_say_8 : decode cX6_say 8 = .ok (.iconst 0, 1) := by decide +kernel
theorem dX6_say_9 : decode cX6_say 9 = .ok (.invokevirtual 68, 3) := by decide +kernel
theorem dX6_say_12 : decode cX6_say 12 = .ok (.ireturn, 1) := by decide +kernel
theorem dX6_say_13 : decode cX6_say 13 = .ok (.aload_n 0, 1) := by decide +kernel
theorem dX6_say_14 : decode cX6_say 14 = .ok (.getfield 44, 3) := by decide +kernel
theorem dX6_say_17 : decode cX6_say 17 = .ok (.iload_n 1, 1) := by decide +kernel
theorem dX6_say_18 : decode cX6_say 18 = .ok (.iaload, 1) := by decide +kernel
theorem dX6_say_19 : decode cX6_say 19 = .ok (.ifCond .ne 9, 3) := by decide +kernel
theorem dX6_say_22 : decode cX6_say 22 = .ok (.aload_n 0, 1) := by decide +kernel
theorem dX6_say_23 : decode cX6_say 23 = .ok (.iconst 5, 1) := by decide +kernel
theorem dX6_say_24 : decode cX6_say 24 = .ok (.invokevirtual 68, 3) := by decide +kernel
theorem dX6_say_27 : decode cX6_say 27 = .ok (.ireturn, 1) := by decide +kernel
theorem dX6_say_28 : decode cX6_say 28 = .ok (.aload_n 0, 1) := by decide +kernel
theorem dX6_say_29 : decode cX6_say 29 = .ok (.iload_n 2, 1) := by decide +kernel
theorem dX6_say_30 : decode cX6_say 30 = .ok (.invokevirtual 102, 3) := by decide +kernel
theorem dX6_say_33 : decode cX6_say 33 = .ok (.ifCond .eq 10, 3) := by decide +kernel
theorem dX6_say_36 : decode cX6_say 36 = .ok (.iload_n 3, 1) := by decide +kernel
theorem dX6_say_37 : decode cX6_say 37 = .ok (.invokestatic 118, 3) := by decide +kernel
theorem dX6_say_40 : decode cX6_say 40 = .ok (.ifCond .ne 9, 3) := by decide +kernel
theorem dX6_say_43 : decode cX6_say 43 = .ok (.aload_n 0, 1) := by decide +kernel
theorem dX6_say_44 : decode cX6_say 44 = .ok (.iconst 0, 1) := by decide +kernel
theorem dX6_say_45 : decode cX6_say 45 = .ok (.invokevirtual 68, 3) := by decide +kernel
theorem dX6_say_48 : decode cX6_say 48 = .ok (.ireturn, 1) := by decide +kernel
theorem dX6_say_49 : decode cX6_say 49 = .ok (.aload_n 0, 1) := by decide +kernel
theorem dX6_say_50 : decode cX6_say 50 = .ok (.iload_n 2, 1) := by decide +kernel
theorem dX6_say_51 : decode cX6_say 51 = .ok (.iload_n 3, 1) := by decide +kernel
theorem dX6_say_52 : decode cX6_say 52 = .ok (.invokevirtual 132, 3) := by decide +kernel
theorem dX6_say_55 : decode cX6_say 55 = .ok (.ifCond .ne 9, 3) := by decide +kernel
theorem dX6_say_58 : decode cX6_say 58 = .ok (.aload_n 0, 1) := by decide +kernel
theorem dX6_say_59 : decode cX6_say 59 = .ok (.iconst 3, 1) := by decide +kernel
theorem dX6_say_60 : decode cX6_say 60 = .ok (.invokevirtual 68, 3) := by decide +kernel
theorem dX6_say_63 : decode cX6_say 63 = .ok (.ireturn, 1) := by decide +kernel
theorem dX6_say_64 : decode cX6_say 64 = .ok (.aload_n 0, 1) := by decide +kernel
theorem dX6_say_65 : decode cX6_say 65 = .ok (.getfield 47, 3) := by decide +kernel
theorem dX6_say_68 : decode cX6_say 68 = .ok (.iload_n 1, 1) := by decide +kernel
theorem dX6_say_69 : decode cX6_say 69 = .ok (.iaload, 1) := by decide +kernel
theorem dX6_say_70 : decode cX6_say 70 = .ok (.aload_n 0, 1) := by decide +kernel
theorem dX6_say_71 : decode cX6_say 71 = .ok (.iload_n 2, 1) := by decide +kernel
theorem dX6_say_72 : decode cX6_say 72 = .ok (.invokevirtual 105, 3) := by decide +kernel
theorem dX6_say_75 : decode cX6_say 75 = .ok (.if_icmp .ge 12, 3) := by decide +kernel
theorem dX6_say_78 : decode cX6_say 78 = .ok (.aload_n 0, 1) := by decide +kernel
theorem dX6_say_79 : decode cX6_say 79 = .ok (.getfield 47, 3) := by decide +kernel
theorem dX6_say_82 : decode cX6_say 82 = .ok (.iload_n 1, 1) := by decide +kernel
theorem dX6_say_83 : decode cX6_say 83 = .ok (.iaload, 1) := by decide +kernel
theorem dX6_say_84 : decode cX6_say 84 = .ok (.goto 8, 3) := by decide +kernel
theorem dX6_say_87 : decode cX6_say 87 = .ok (.aload_n 0, 1) := by decide +kernel
theorem dX6_say_88 : decode cX6_say 88 = .ok (.iload_n 2, 1) := by decide +kernel
theorem dX6_say_89 : decode cX6_say 89 = .ok (.invokevirtual 105, 3) := by decide +kernel
theorem dX6_say_92 : decode cX6_say 92 = .ok (.istore 4, 2) := by decide +kernel
theorem dX6_say_94 : decode cX6_say 94 = .ok (.iconst 0, 1) := by decide +kernel
theorem dX6_say_95 : decode cX6_say 95 = .ok (.istore 5, 2) := by decide +kernel
theorem dX6_say_97 : decode cX6_say 97 = .ok (.iload 5, 2) := by decide +kernel
theorem dX6_say_99 : decode cX6_say 99 = .ok (.iload 4, 2) := by decide +kernel
theorem dX6_say_101 : decode cX6_say 101 = .ok (.if_icmp .ge 24, 3) := by decide +kernel
theorem dX6_say_104 : decode cX6_say 104 = .ok (.aload_n 0, 1) := by decide +kernel
theorem dX6_say_105 : decode cX6_say 105 = .ok (.iload_n 1, 1) := by decide +kernel
theorem dX6_say_106 : decode cX6_say 106 = .ok (.iload 5, 2) := by decide +kernel
theorem dX6_say_108 : decode cX6_say 108 = .ok (.aload_n 0, 1) := by decide +kernel
theorem dX6_say_109 : decode cX6_say 109 = .ok (.getfield 32, 3) := by decide +kernel
theorem dX6_say_112 : decode cX6_say 112 = .ok (.iload 5, 2) := by decide +kernel
theorem dX6_say_114 : decode cX6_say 114 = .ok (.iaload, 1) := by decide +kernel
theorem dX6_say_115 : decode cX6_say 115 = .ok (.i2l, 1) := by decide +kernel
theorem dX6_say_116 : decode cX6_say 116 = .ok (.invokevirtual 284, 3) := by decide +kernel
theorem dX6_say_119 : decode cX6_say 119 = .ok (.iinc 5 1, 3) := by decide +kernel
theorem dX6_say_122 : decode cX6_say 122 = .ok (.goto (-25), 3) := by decide +kernel
theorem dX6_say_125 : decode cX6_say 125 = .ok (.iload 4, 2) := by decide +kernel
theorem dX6_say_127 : decode cX6_say 127 = .ok (.ireturn, 1) := by decide +kernel
set_option maxRecDepth 20000 in
theorem ggX6_isSaid_X6_long_ : GoodIn wsX6_isSaid wsX6_long_ := goodIn_r _ [6, 7, 23, 24, 25, 26, 27, 28, 29, 30, 31, 32, 33, 34, 35, 36, 37, 38, 39, 40, 41, 42] (by decide +kernel) (by decide +kernel)
set_option maxRecDepth 20000 in
theorem gX6_isSaid_X6_long_ : GoodIn wsX6_isSaid (wsV RX6 105 RX6 yX6_long_ wsX6_long_) := goodIn_app (goodIn_of _ (by decide +kernel)) ggX6_isSaid_X6_long_
set_option maxRecDepth 20000 in
theorem ggX6_isSaid_X6_nth : GoodIn wsX6_isSaid wsX6_nth := goodIn_r _ [11, 7, 23, 24, 25, 26, 27, 28, 29, 30, 31, 32, 33, 34, 35, 36, 37, 38, 39, 40, 41, 42] (by decide +kernel) (by decide +kernel)
set_option maxRecDepth 20000 in
theorem gX6_isSaid_X6_nth : GoodIn wsX6_isSaid (wsV RX6 112 RX6 yX6_nth wsX6_nth) := goodIn_app (goodIn_of _ (by decide +kernel)) ggX6_isSaid_X6_nth
set_option maxRecDepth 20000 in
theorem ggX6_isSaid_X6_isLength : GoodIn wsX6_isSaid wsX6_isLength := goodIn_r _ [15, 16, 17, 18, 5, 19, 7, 20, 21, 22, 23, 24, 25, 26, 27, 28, 29, 30, 31, 32, 33, 34, 35, 36, 37, 38, 39, 40, 41, 42] (by decide +kernel) (by decide +kernel)
set_option maxRecDepth 20000 in
theorem gX6_isSaid_X6_isLength : GoodIn wsX6_isSaid (wsV RX6 83 RX6 yX6_isLength wsX6_isLength) := goodIn_app (goodIn_of _ (by decide +kernel)) ggX6_isSaid_X6_isLength
theorem dX6_isSaid_0 : decode cX6_isSaid 0 = .ok (.iload_n 2, 1) := by decide +kernel
theorem dX6_isSaid_1 : decode cX6_isSaid 1 = .ok (.aload_n 0, 1) := by decide +kernel
theorem dX6_isSaid_2 : decode cX6_isSaid 2 = .ok (.iload_n 1, 1) := by decide +kernel
theorem dX6_isSaid_3 : decode cX6_isSaid 3 = .ok (.invokevirtual 105, 3) := by decide +kernel
theorem dX6_isSaid_6 : decode cX6_isSaid 6 = .ok (.if_icmp .ge 36, 3) := by decide +kernel
theorem dX6_isSaid_9 : decode cX6_isSaid 9 = .ok (.lload_n 3, 1) := by decide +kernel
theorem dX6_isSaid_10 : decode cX6_isSaid 10 = .ok (.lconst 0, 1) := by decide +kernel
theorem dX6_isSaid_11 : decode cX6_isSaid 11 = .ok (.lcmp, 1) := by decide +kernel
theorem dX6_isSaid_12 : decode cX6_isSaid 12 = .ok (.ifCond .lt 30, 3) := by decide +kernel
theorem dX6_isSaid_15 : decode cX6_isSaid 15 = .ok (.lload_n 3, 1) := by decide +kernel
theorem dX6_isSaid_16 : decode cX6_isSaid 16 = .ok (.ldc2_w 290, 3) := by decide +kernel
theorem dX6_isSaid_19 : decode cX6_isSaid 19 = .ok (.lcmp, 1) := by decide +kernel
theorem dX6_isSaid_20 : decode cX6_isSaid 20 = .ok (.ifCond .ge 22, 3) := by decide +kernel
theorem dX6_isSaid_23 : decode cX6_isSaid 23 = .ok (.aload_n 0, 1) := by decide +kernel
theorem dX6_isSaid_24 : decode cX6_isSaid 24 = .ok (.aload_n 0, 1) := by decide +kernel
theorem dX6_isSaid_25 : decode cX6_isSaid 25 = .ok (.iload_n 1, 1) := by decide +kernel
theorem dX6_isSaid_26 : decode cX6_isSaid 26 = .ok (.iload_n 2, 1) := by decide +kernel
theorem dX6_isSaid_27 : decode cX6_isSaid 27 = .ok (.invokevirtual 112, 3) := by decide +kernel
theorem dX6_isSaid_30 : decode cX6_isSaid 30 = .ok (.lload_n 3, 1) := by decide +kernel
theorem dX6_isSaid_31 : decode cX6_isSaid 31 = .ok (.l2i, 1) := by decide +kernel
theorem dX6_isSaid_32 : decode cX6_isSaid 32 = .ok (.invokevirtual 83, 3) := by decide +kernel
theorem dX6_isSaid_35 : decode cX6_isSaid 35 = .ok (.ifCond .eq 7, 3) := by decide +kernel
theorem dX6_isSaid_38 : decode cX6_isSaid 38 = .ok (.iconst 1, 1) := by decide +kernel
theorem dX6_isSaid_39 : decode cX6_isSaid 39 = .ok (.goto 4, 3) := by decide +kernel
theorem dX6_isSaid_42 : decode cX6_isSaid 42 = .ok (.iconst 0, 1) := by decide +kernel
theorem dX6_isSaid_43 : decode cX6_isSaid 43 = .ok (.ireturn, 1) := by decide +kernel
set_option maxRecDepth 20000 in
theorem ggX6_read_X6_isSheet : GoodIn wsX6_read wsX6_isSheet := goodIn_r _ [8, 9, 10, 7, 11] (by decide +kernel) (by decide +kernel)
set_option maxRecDepth 20000 in
theorem gX6_read_X6_isSheet : GoodIn wsX6_read (va_wsS RX6 281 yX6_isSheet wsX6_isSheet) := goodIn_app (goodIn_of _ (by decide +kernel)) ggX6_read_X6_isSheet
set_option maxRecDepth 20000 in
theorem ggX6_read_X6_no : GoodIn wsX6_read wsX6_no := goodIn_r _ [15, 16, 17, 54, 55, 56, 57, 58, 59, 60, 61, 62, 63, 64, 65, 66, 67, 68, 69, 70, 71, 72, 73] (by decide +kernel) (by decide +kernel)
set_option maxRecDepth 20000 in
theorem gX6_read_X6_no : GoodIn wsX6_read (wsV RX6 68 RX6 yX6_no wsX6_no) := goodIn_app (goodIn_of _ (by decide +kernel)) ggX6_read_X6_no
set_option maxRecDepth 20000 in
theorem ggX6_read_X6_areTold : GoodIn wsX6_read wsX6_areTold := goodIn_r _ [21, 22, 23, 24, 7, 25, 4, 9, 10, 11, 26, 27, 28, 29, 54, 55, 56, 57, 58, 59, 60, 61, 62, 63, 64, 65, 66, 67, 68, 69, 70, 71, 72, 73] (by decide +kernel) (by decide +kernel)
set_option maxRecDepth 20000 in
theorem gX6_read_X6_areTold : GoodIn wsX6_read (wsV RX6 150 RX6 yX6_areTold wsX6_areTold) := goodIn_app (goodIn_of _ (by decide +kernel)) ggX6_read_X6_areTold
set_option maxRecDepth 20000 in
theorem ggX6_read_X6_isSaid : GoodIn wsX6_read wsX6_isSaid := goodIn_r _ [33, 34, 35, 36, 37, 7, 38, 4, 39, 40, 41, 42, 43, 44, 45, 46, 47, 48, 49, 50, 51, 52, 53, 54, 55, 56, 57, 58, 59, 60, 61, 62, 63, 64, 65, 66, 67, 68, 69, 70, 71, 72, 73] (by decide +kernel) (by decide +kernel)
set_option maxRecDepth 20000 in
theorem gX6_read_X6_isSaid : GoodIn wsX6_read (wsV RX6 292 RX6 yX6_isSaid wsX6_isSaid) := goodIn_app (goodIn_of _ (by decide +kernel)) ggX6_read_X6_isSaid
set_option maxRecDepth 20000 in
theorem ggX6_read_X6_long_ : GoodIn wsX6_read wsX6_long_ := goodIn_r _ [38, 4, 54, 55, 56, 57, 58, 59, 60, 61, 62, 63, 64, 65, 66, 67, 68, 69, 70, 71, 72, 73] (by decide +kernel) (by decide +kernel)
set_option maxRecDepth 20000 in
theorem gX6_read_X6_long_ : GoodIn wsX6_read (wsV RX6 105 RX6 yX6_long_ wsX6_long_) := goodIn_app (goodIn_of _ (by decide +kernel)) ggX6_read_X6_long_
theorem dX6_read_0 : decode cX6_read 0 = .ok (.iload_n 1, 1) := by decide +kernel
theorem dX6_read_1 : decode cX6_read 1 = .ok (.invokestatic 281, 3) := by decide +kernel
theorem dX6_read_4 : decode cX6_read 4 = .ok (.ifCond .ne 9, 3) := by decide +kernel
theorem dX6_read_7 : decode cX6_read 7 = .ok (.aload_n 0, 1) := by decide +kernel
theorem dX6_read_8 : decode cX6_read 8 = .ok (.iconst 0, 1) := by decide +kernel
theorem dX6_read_9 : decode cX6_read 9 = .ok (.invokevirtual 68, 3) := by decide +kernel
theorem dX6_read_12 : decode cX6_read 12 = .ok (.ireturn, 1) := by decide +kernel
theorem dX6_read_13 : decode cX6_read 13 = .ok (.aload_n 0, 1) := by decide +kernel
theorem dX6_read_14 : decode cX6_read 14 = .ok (.getfield 44, 3) := by decide +kernel
theorem dX6_read_17 : decode cX6_read 17 = .ok (.iload_n 1, 1) := by decide +kernel
theorem dX6_read_18 : decode cX6_read 18 = .ok (.iaload, 1) := by decide +kernel
theorem dX6_read_19 : decode cX6_read 19 = .ok (.ifCond .ne 9, 3) := by decide +kernel
theorem dX6_read_22 : decode cX6_read 22 = .ok (.aload_n 0, 1) := by decide +kernel
theorem dX6_read_23 : decode cX6_read 23 = .ok (.iconst 5, 1) := by decide +kernel
theorem dX6_read_24 : decode cX6_read 24 = .ok (.invokevirtual 68, 3) := by decide +kernel
theorem dX6_read_27 : decode cX6_read 27 = .ok (.ireturn, 1) := by decide +kernel
theorem dX6_read_28 : decode cX6_read 28 = .ok (.aload_n 0, 1) := by decide +kernel
theorem dX6_read_29 : decode cX6_read 29 = .ok (.iload_n 2, 1) := by decide +kernel
theorem dX6_read_30 : decode cX6_read 30 = .ok (.iload_n 3, 1) := by decide +kernel
theorem dX6_read_31 : decode cX6_read 31 = .ok (.invokevirtual 150, 3) := by decide +kernel
theorem dX6_read_34 : decode cX6_read 34 = .ok (.ifCond .ne 9, 3) := by decide +kernel
theorem dX6_read_37 : decode cX6_read 37 = .ok (.aload_n 0, 1) := by decide +kernel
theorem dX6_read_38 : decode cX6_read 38 = .ok (.iconst 0, 1) := by decide +kernel
theorem dX6_read_39 : decode cX6_read 39 = .ok (.invokevirtual 68, 3) := by decide +kernel
theorem dX6_read_42 : decode cX6_read 42 = .ok (.ireturn, 1) := by decide +kernel
theorem dX6_read_43 : decode cX6_read 43 = .ok (.iconst 0, 1) := by decide +kernel
theorem dX6_read_44 : decode cX6_read 44 = .ok (.istore 4, 2) := by decide +kernel
theorem dX6_read_46 : decode cX6_read 46 = .ok (.iconst 0, 1) := by decide +kernel
theorem dX6_read_47 : decode cX6_read 47 = .ok (.istore 5, 2) := by decide +kernel
theorem dX6_read_49 : decode cX6_read 49 = .ok (.iload 5, 2) := by decide +kernel
theorem dX6_read_51 : decode cX6_read 51 = .ok (.aload_n 0, 1) := by decide +kernel
theorem dX6_read_52 : decode cX6_read 52 = .ok (.getfield 47, 3) := by decide +kernel
theorem dX6_read_55 : decode cX6_read 55 = .ok (.iload_n 1, 1) := by decide +kernel
theorem dX6_read_56 : decode cX6_read 56 = .ok (.iaload, 1) := by decide +kernel
theorem dX6_read_57 : decode cX6_read 57 = .ok (.if_icmp .ge 49, 3) := by decide +kernel
theorem dX6_read_60 : decode cX6_read 60 = .ok (.aload_n 0, 1) := by decide +kernel
theorem dX6_read_61 : decode cX6_read 61 = .ok (.iload_n 2, 1) := by decide +kernel
theorem dX6_read_62 : decode cX6_read 62 = .ok (.iload 5, 2) := by decide +kernel
theorem dX6_read_64 : decode cX6_read 64 = .ok (.aload_n 0, 1) := by decide +kernel
theorem dX6_read_65 : decode cX6_read 65 = .ok (.getfield 50, 3) := by decide +kernel
theorem dX6_read_68 : decode cX6_read 68 = .ok (.bipush 40, 2) := by decide +kernel
theorem dX6_read_70 : decode cX6_read 70 = .ok (.iload_n 1, 1) := by decide +kernel
theorem dX6_read_71 : decode cX6_read 71 = .ok (.imul, 1) := by decide +kernel
theorem dX6_read_72 : decode cX6_read 72 = .ok (.iload 5, 2) := by decide +kernel
theorem dX6_read_74 : decode cX6_read 74 = .ok (.iadd, 1) := by decide +kernel
theorem dX6_read_75 : decode cX6_read 75 = .ok (.laload, 1) := by decide +kernel
theorem dX6_read_76 : decode cX6_read 76 = .ok (.invokevirtual 292, 3) := by decide +kernel
theorem dX6_read_79 : decode cX6_read 79 = .ok (.ifCond .eq 27, 3) := by decide +kernel
theorem dX6_read_82 : decode cX6_read 82 = .ok (.iload 4, 2) := by decide +kernel
theorem dX6_read_84 : decode cX6_read 84 = .ok (.aload_n 0, 1) := by decide +kernel
theorem dX6_read_85 : decode cX6_read 85 = .ok (.getfield 50, 3) := by decide +kernel
theorem dX6_read_88 : decode cX6_read 88 = .ok (.bipush 40, 2) := by decide +kernel
theorem dX6_read_90 : decode cX6_read 90 = .ok (.iload_n 1, 1) := by decide +kernel
theorem dX6_read_91 : decode cX6_read 91 = .ok (.imul, 1) := by decide +kernel
theorem dX6_read_92 : decode cX6_read 92 = .ok (.iload 5, 2) := by decide +kernel
theorem dX6_read_94 : decode cX6_read 94 = .ok (.iadd, 1) := by decide +kernel
theorem dX6_read_95 : decode cX6_read 95 = .ok (.laload, 1) := by decide +kernel
theorem dX6_read_96 : decode cX6_read 96 = .ok (.l2i, 1) := by decide +kernel
theorem dX6_read_97 : decode cX6_read 97 = .ok (.iadd, 1) := by decide +kernel
theorem dX6_read_98 : decode cX6_read 98 = .ok (.istore 4, 2) := by decide +kernel
theorem dX6_read_100 : decode cX6_read 100 = .ok (.iinc 5 1, 3) := by decide +kernel
theorem dX6_read_103 : decode cX6_read 103 = .ok (.goto (-54), 3) := by decide +kernel
theorem dX6_read_106 : decode cX6_read 106 = .ok (.iload 5, 2) := by decide +kernel
theorem dX6_read_108 : decode cX6_read 108 = .ok (.aload_n 0, 1) := by decide +kernel
theorem dX6_read_109 : decode cX6_read 109 = .ok (.getfield 47, 3) := by decide +kernel
theorem dX6_read_112 : decode cX6_read 112 = .ok (.iload_n 1, 1) := by decide +kernel
theorem dX6_read_113 : decode cX6_read 113 = .ok (.iaload, 1) := by decide +kernel
theorem dX6_read_114 : decode cX6_read 114 = .ok (.if_icmp .lt 13, 3) := by decide +kernel
theorem dX6_read_117 : decode cX6_read 117 = .ok (.iload 5, 2) := by decide +kernel
theorem dX6_read_119 : decode cX6_read 119 = .ok (.aload_n 0, 1) := by decide +kernel
theorem dX6_read_120 : decode cX6_read 120 = .ok (.iload_n 2, 1) := by decide +kernel
theorem dX6_read_121 : decode cX6_read 121 = .ok (.invokevirtual 105, 3) := by decide +kernel
theorem dX6_read_124 : decode cX6_read 124 = .ok (.if_icmp .ge 8, 3) := by decide +kernel
theorem dX6_read_127 : decode cX6_read 127 = .ok (.iconst 1, 1) := by decide +kernel
theorem dX6_read_128 : decode cX6_read 128 = .ok (.iload 5, 2) := by decide +kernel
theorem dX6_read_130 : decode cX6_read 130 = .ok (.iadd, 1) := by decide +kernel
theorem dX6_read_131 : decode cX6_read 131 = .ok (.ireturn, 1) := by decide +kernel
theorem dX6_read_132 : decode cX6_read 132 = .ok (.iload 4, 2) := by decide +kernel
theorem dX6_read_134 : decode cX6_read 134 = .ok (.aload_n 0, 1) := by decide +kernel
theorem dX6_read_135 : decode cX6_read 135 = .ok (.getfield 9, 3) := by decide +kernel
theorem dX6_read_138 : decode cX6_read 138 = .ok (.sipush 156, 3) := by decide +kernel
theorem dX6_read_141 : decode cX6_read 141 = .ok (.iload_n 3, 1) := by decide +kernel
theorem dX6_read_142 : decode cX6_read 142 = .ok (.iadd, 1) := by decide +kernel
theorem dX6_read_143 : decode cX6_read 143 = .ok (.iaload, 1) := by decide +kernel
theorem dX6_read_144 : decode cX6_read 144 = .ok (.if_icmp .ne 7, 3) := by decide +kernel
theorem dX6_read_147 : decode cX6_read 147 = .ok (.iconst 0, 1) := by decide +kernel
theorem dX6_read_148 : decode cX6_read 148 = .ok (.goto 5, 3) := by decide +kernel
theorem dX6_read_151 : decode cX6_read 151 = .ok (.bipush 41, 2) := by decide +kernel
theorem dX6_read_153 : decode cX6_read 153 = .ok (.ireturn, 1) := by decide +kernel
set_option maxRecDepth 20000 in
theorem ggX6_image_X6_lay : GoodIn wsX6_image wsX6_lay := goodIn_r _ [7] (by decide +kernel) (by decide +kernel)
set_option maxRecDepth 20000 in
theorem gX6_image_X6_lay : GoodIn wsX6_image (va_wsS RX6 274 yX6_lay wsX6_lay) := goodIn_app (goodIn_of _ (by decide +kernel)) ggX6_image_X6_lay
theorem dX6_image_0 : decode cX6_image 0 = .ok (.aload_n 0, 1) := by decide +kernel
theorem dX6_image_1 : decode cX6_image 1 = .ok (.getfield 9, 3) := by decide +kernel
theorem dX6_image_4 : decode cX6_image 4 = .ok (.aload_n 0, 1) := by decide +kernel
theorem dX6_image_5 : decode cX6_image 5 = .ok (.getfield 13, 3) := by decide +kernel
theorem dX6_image_8 : decode cX6_image 8 = .ok (.invokestatic 274, 3) := by decide +kernel
theorem dX6_image_11 : decode cX6_image 11 = .ok (.aload_n 0, 1) := by decide +kernel
theorem dX6_image_12 : decode cX6_image 12 = .ok (.iconst 1, 1) := by decide +kernel
theorem dX6_image_13 : decode cX6_image 13 = .ok (.putfield 296, 3) := by decide +kernel
theorem dX6_image_16 : decode cX6_image 16 = .ok (.iconst 1, 1) := by decide +kernel
theorem dX6_image_17 : decode cX6_image 17 = .ok (.ireturn, 1) := by decide +kernel
set_option maxRecDepth 20000 in
theorem ggX6_undo_X6_no : GoodIn wsX6_undo wsX6_no := goodIn_r _ [8, 9, 10, 14, 15, 16, 17, 18, 19, 20, 21, 22, 23, 24, 25, 26, 27, 28, 29, 30, 31, 32, 33] (by decide +kernel) (by decide +kernel)
set_option maxRecDepth 20000 in
theorem gX6_undo_X6_no : GoodIn wsX6_undo (wsV RX6 68 RX6 yX6_no wsX6_no) := goodIn_app (goodIn_of _ (by decide +kernel)) ggX6_undo_X6_no
set_option maxRecDepth 20000 in
theorem ggX6_undo_X6_lay : GoodIn wsX6_undo wsX6_lay := goodIn_r _ [13] (by decide +kernel) (by decide +kernel)
set_option maxRecDepth 20000 in
theorem gX6_undo_X6_lay : GoodIn wsX6_undo (va_wsS RX6 274 yX6_lay wsX6_lay) := goodIn_app (goodIn_of _ (by decide +kernel)) ggX6_undo_X6_lay
theorem dX6_undo_0 : decode cX6_undo 0 = .ok (.aload_n 0, 1) := by decide +kernel
theorem dX6_undo_1 : decode cX6_undo 1 = .ok (.getfield 296, 3) := by decide +kernel
theorem dX6_undo_4 : decode cX6_undo 4 = .ok (.ifCond .ne 9, 3) := by decide +kernel
theorem dX6_undo_7 : decode cX6_undo 7 = .ok (.aload_n 0, 1) := by decide +kernel
theorem dX6_undo_8 : decode cX6_undo 8 = .ok (.iconst 3, 1) := by decide +kernel
theorem dX6_undo_9 : decode cX6_undo 9 = .ok (.invokevirtual 68, 3) := by decide +kernel
theorem dX6_undo_12 : decode cX6_undo 12 = .ok (.ireturn, 1) := by decide +kernel
theorem dX6_undo_13 : decode cX6_undo 13 = .ok (.aload_n 0, 1) := by decide +kernel
theorem dX6_undo_14 : decode cX6_undo 14 = .ok (.getfield 13, 3) := by decide +kernel
theorem dX6_undo_17 : decode cX6_undo 17 = .ok (.aload_n 0, 1) := by decide +kernel
theorem dX6_undo_18 : decode cX6_undo 18 = .ok (.getfield 9, 3) := by decide +kernel
theorem dX6_undo_21 : decode cX6_undo 21 = .ok (.invokestatic 274, 3) := by decide +kernel
theorem dX6_undo_24 : decode cX6_undo 24 = .ok (.aload_n 0, 1) := by decide +kernel
theorem dX6_undo_25 : decode cX6_undo 25 = .ok (.getfield 9, 3) := by decide +kernel
theorem dX6_undo_28 : decode cX6_undo 28 = .ok (.iconst 1, 1) := by decide +kernel
theorem dX6_undo_29 : decode cX6_undo 29 = .ok (.iaload, 1) := by decide +kernel
theorem dX6_undo_30 : decode cX6_undo 30 = .ok (.ireturn, 1) := by decide +kernel
theorem dX6_tear_0 : decode cX6_tear 0 = .ok (.aload_n 0, 1) := by decide +kernel
theorem dX6_tear_1 : decode cX6_tear 1 = .ok (.getfield 296, 3) := by decide +kernel
theorem dX6_tear_4 : decode cX6_tear 4 = .ok (.ifCond .eq 7, 3) := by decide +kernel
theorem dX6_tear_7 : decode cX6_tear 7 = .ok (.iconst 1, 1) := by decide +kernel
theorem dX6_tear_8 : decode cX6_tear 8 = .ok (.goto 4, 3) := by decide +kernel
theorem dX6_tear_11 : decode cX6_tear 11 = .ok (.iconst 0, 1) := by decide +kernel
theorem dX6_tear_12 : decode cX6_tear 12 = .ok (.istore_n 1, 1) := by decide +kernel
theorem dX6_tear_13 : decode cX6_tear 13 = .ok (.aload_n 0, 1) := by decide +kernel
theorem dX6_tear_14 : decode cX6_tear 14 = .ok (.iconst 0, 1) := by decide +kernel
theorem dX6_tear_15 : decode cX6_tear 15 = .ok (.putfield 296, 3) := by decide +kernel
theorem dX6_tear_18 : decode cX6_tear 18 = .ok (.iload_n 1, 1) := by decide +kernel
theorem dX6_tear_19 : decode cX6_tear 19 = .ok (.ireturn, 1) := by decide +kernel
set_option maxRecDepth 20000 in
theorem ggX6_count_X6_no : GoodIn wsX6_count wsX6_no := goodIn_r _ [7, 8, 9, 10, 11, 12, 13, 14, 15, 16, 17, 18, 19, 20, 21, 22, 23, 24, 25, 26, 27, 28, 29] (by decide +kernel) (by decide +kernel)
set_option maxRecDepth 20000 in
theorem gX6_count_X6_no : GoodIn wsX6_count (wsV RX6 68 RX6 yX6_no wsX6_no) := goodIn_app (goodIn_of _ (by decide +kernel)) ggX6_count_X6_no
theorem dX6_count_0 : decode cX6_count 0 = .ok (.iload_n 1, 1) := by decide +kernel
theorem dX6_count_1 : decode cX6_count 1 = .ok (.tableswitch 68 0 4 #[35, 42, 49, 56, 61], 35) := by decide +kernel
theorem dX6_count_36 : decode cX6_count 36 = .ok (.aload_n 0, 1) := by decide +kernel
theorem dX6_count_37 : decode cX6_count 37 = .ok (.getfield 9, 3) := by decide +kernel
theorem dX6_count_40 : decode cX6_count 40 = .ok (.iconst 1, 1) := by decide +kernel
theorem dX6_count_41 : decode cX6_count 41 = .ok (.iaload, 1) := by decide +kernel
theorem dX6_count_42 : decode cX6_count 42 = .ok (.ireturn, 1) := by decide +kernel
theorem dX6_count_43 : decode cX6_count 43 = .ok (.aload_n 0, 1) := by decide +kernel
theorem dX6_count_44 : decode cX6_count 44 = .ok (.getfield 9, 3) := by decide +kernel
theorem dX6_count_47 : decode cX6_count 47 = .ok (.iconst 2, 1) := by decide +kernel
theorem dX6_count_48 : decode cX6_count 48 = .ok (.iaload, 1) := by decide +kernel
theorem dX6_count_49 : decode cX6_count 49 = .ok (.ireturn, 1) := by decide +kernel
theorem dX6_count_50 : decode cX6_count 50 = .ok (.aload_n 0, 1) := by decide +kernel
theorem dX6_count_51 : decode cX6_count 51 = .ok (.getfield 9, 3) := by decide +kernel
theorem dX6_count_54 : decode cX6_count 54 = .ok (.iconst 3, 1) := by decide +kernel
theorem dX6_count_55 : decode cX6_count 55 = .ok (.iaload, 1) := by decide +kernel
theorem dX6_count_56 : decode cX6_count 56 = .ok (.ireturn, 1) := by decide +kernel
theorem dX6_count_57 : decode cX6_count 57 = .ok (.aload_n 0, 1) := by decide +kernel
theorem dX6_count_58 : decode cX6_count 58 = .ok (.getfield 170, 3) := by decide +kernel
theorem dX6_count_61 : decode cX6_count 61 = .ok (.ireturn, 1) := by decide +kernel
theorem dX6_count_62 : decode cX6_count 62 = .ok (.aload_n 0, 1) := by decide +kernel
theorem dX6_count_63 : decode cX6_count 63 = .ok (.getfield 9, 3) := by decide +kernel
theorem dX6_count_66 : decode cX6_count 66 = .ok (.iconst 0, 1) := by decide +kernel
theorem dX6_count_67 : decode cX6_count 67 = .ok (.iaload, 1) := by decide +kernel
theorem dX6_count_68 : decode cX6_count 68 = .ok (.ireturn, 1) := by decide +kernel
theorem dX6_count_69 : decode cX6_count 69 = .ok (.aload_n 0, 1) := by decide +kernel
theorem dX6_count_70 : decode cX6_count 70 = .ok (.iconst 0, 1) := by decide +kernel
theorem dX6_count_71 : decode cX6_count 71 = .ok (.invokevirtual 68, 3) := by decide +kernel
theorem dX6_count_74 : decode cX6_count 74 = .ok (.ireturn, 1) := by decide +kernel
set_option maxRecDepth 20000 in
theorem ggX6_status_X6_in : GoodIn wsX6_status wsX6_in := goodIn_r _ [5] (by decide +kernel) (by decide +kernel)
set_option maxRecDepth 20000 in
theorem gX6_status_X6_in : GoodIn wsX6_status (va_wsS RX6 57 yX6_in wsX6_in) := goodIn_app (goodIn_of _ (by decide +kernel)) ggX6_status_X6_in
set_option maxRecDepth 20000 in
theorem ggX6_status_X6_no : GoodIn wsX6_status wsX6_no := goodIn_r _ [9, 1, 10, 11, 12, 13, 14, 15, 16, 17, 18, 19, 20, 21, 22, 23, 24, 25, 26, 27, 28, 29, 30] (by decide +kernel) (by decide +kernel)
set_option maxRecDepth 20000 in
theorem gX6_status_X6_no : GoodIn wsX6_status (wsV RX6 68 RX6 yX6_no wsX6_no) := goodIn_app (goodIn_of _ (by decide +kernel)) ggX6_status_X6_no
theorem dX6_status_0 : decode cX6_status 0 = .ok (.iload_n 1, 1) := by decide +kernel
theorem dX6_status_1 : decode cX6_status 1 = .ok (.iconst (-1), 1) := by decide +kernel
theorem dX6_status_2 : decode cX6_status 2 = .ok (.bipush 6, 2) := by decide +kernel
theorem dX6_status_4 : decode cX6_status 4 = .ok (.invokestatic 57, 3) := by decide +kernel
theorem dX6_status_7 : decode cX6_status 7 = .ok (.ifCond .ne 9, 3) := by decide +kernel
theorem dX6_status_10 : decode cX6_status 10 = .ok (.aload_n 0, 1) := by decide +kernel
theorem dX6_status_11 : decode cX6_status 11 = .ok (.iconst 0, 1) := by decide +kernel
theorem dX6_status_12 : decode cX6_status 12 = .ok (.invokevirtual 68, 3) := by decide +kernel
theorem dX6_status_15 : decode cX6_status 15 = .ok (.ireturn, 1) := by decide +kernel
theorem dX6_status_16 : decode cX6_status 16 = .ok (.iconst 0, 1) := by decide +kernel
theorem dX6_status_17 : decode cX6_status 17 = .ok (.istore_n 2, 1) := by decide +kernel
theorem dX6_status_18 : decode cX6_status 18 = .ok (.iconst 0, 1) := by decide +kernel
theorem dX6_status_19 : decode cX6_status 19 = .ok (.istore_n 3, 1) := by decide +kernel
theorem dX6_status_20 : decode cX6_status 20 = .ok (.iload_n 3, 1) := by decide +kernel
theorem dX6_status_21 : decode cX6_status 21 = .ok (.bipush 7, 2) := by decide +kernel
theorem dX6_status_23 : decode cX6_status 23 = .ok (.if_icmp .ge 32, 3) := by decide +kernel
theorem dX6_status_26 : decode cX6_status 26 = .ok (.iload_n 2, 1) := by decide +kernel
theorem dX6_status_27 : decode cX6_status 27 = .ok (.iload_n 1, 1) := by decide +kernel
theorem dX6_status_28 : decode cX6_status 28 = .ok (.iconst (-1), 1) := by decide +kernel
theorem dX6_status_29 : decode cX6_status 29 = .ok (.if_icmp .eq 8, 3) := by decide +kernel
theorem dX6_status_32 : decode cX6_status 32 = .ok (.iload_n 1, 1) := by decide +kernel
theorem dX6_status_33 : decode cX6_status 33 = .ok (.iload_n 3, 1) := by decide +kernel
theorem dX6_status_34 : decode cX6_status 34 = .ok (.if_icmp .ne 12, 3) := by decide +kernel
theorem dX6_status_37 : decode cX6_status 37 = .ok (.aload_n 0, 1) := by decide +kernel
theorem dX6_status_38 : decode cX6_status 38 = .ok (.getfield 19, 3) := by decide +kernel
theorem dX6_status_41 : decode cX6_status 41 = .ok (.iload_n 3, 1) := by decide +kernel
theorem dX6_status_42 : decode cX6_status 42 = .ok (.iaload, 1) := by decide +kernel
theorem dX6_status_43 : decode cX6_status 43 = .ok (.goto 4, 3) := by decide +kernel
theorem dX6_status_46 : decode cX6_status 46 = .ok (.iconst 0, 1) := by decide +kernel
theorem dX6_status_47 : decode cX6_status 47 = .ok (.iadd, 1) := by decide +kernel
theorem dX6_status_48 : decode cX6_status 48 = .ok (.istore_n 2, 1) := by decide +kernel
theorem dX6_status_49 : decode cX6_status 49 = .ok (.iinc 3 1, 3) := by decide +kernel
theorem dX6_status_52 : decode cX6_status 52 = .ok (.goto (-32), 3) := by decide +kernel
theorem dX6_status_55 : decode cX6_status 55 = .ok (.iload_n 2, 1) := by decide +kernel
theorem dX6_status_56 : decode cX6_status 56 = .ok (.ireturn, 1) := by decide +kernel
theorem dJ6_bitCount_0f7a4_0 : decode cJ6_bitCount_0f7a4 0 = .ok (.iload_n 0, 1) := by decide +kernel
theorem dJ6_bitCount_0f7a4_1 : decode cJ6_bitCount_0f7a4 1 = .ok (.iload_n 0, 1) := by decide +kernel
theorem dJ6_bitCount_0f7a4_2 : decode cJ6_bitCount_0f7a4 2 = .ok (.iconst 1, 1) := by decide +kernel
theorem dJ6_bitCount_0f7a4_3 : decode cJ6_bitCount_0f7a4 3 = .ok (.iushr, 1) := by decide +kernel
theorem dJ6_bitCount_0f7a4_4 : decode cJ6_bitCount_0f7a4 4 = .ok (.ldc_w 265, 3) := by decide +kernel
theorem dJ6_bitCount_0f7a4_7 : decode cJ6_bitCount_0f7a4 7 = .ok (.iand, 1) := by decide +kernel
theorem dJ6_bitCount_0f7a4_8 : decode cJ6_bitCount_0f7a4 8 = .ok (.isub, 1) := by decide +kernel
theorem dJ6_bitCount_0f7a4_9 : decode cJ6_bitCount_0f7a4 9 = .ok (.istore_n 0, 1) := by decide +kernel
theorem dJ6_bitCount_0f7a4_10 : decode cJ6_bitCount_0f7a4 10 = .ok (.iload_n 0, 1) := by decide +kernel
theorem dJ6_bitCount_0f7a4_11 : decode cJ6_bitCount_0f7a4 11 = .ok (.ldc_w 266, 3) := by decide +kernel
theorem dJ6_bitCount_0f7a4_14 : decode cJ6_bitCount_0f7a4 14 = .ok (.iand, 1) := by decide +kernel
theorem dJ6_bitCount_0f7a4_15 : decode cJ6_bitCount_0f7a4 15 = .ok (.iload_n 0, 1) := by decide +kernel
theorem dJ6_bitCount_0f7a4_16 : decode cJ6_bitCount_0f7a4 16 = .ok (.iconst 2, 1) := by decide +kernel
theorem dJ6_bitCount_0f7a4_17 : decode cJ6_bitCount_0f7a4 17 = .ok (.iushr, 1) := by decide +kernel
theorem dJ6_bitCount_0f7a4_18 : decode cJ6_bitCount_0f7a4 18 = .ok (.ldc_w 266, 3) := by decide +kernel
theorem dJ6_bitCount_0f7a4_21 : decode cJ6_bitCount_0f7a4 21 = .ok (.iand, 1) := by decide +kernel
theorem dJ6_bitCount_0f7a4_22 : decode cJ6_bitCount_0f7a4 22 = .ok (.iadd, 1) := by decide +kernel
theorem dJ6_bitCount_0f7a4_23 : decode cJ6_bitCount_0f7a4 23 = .ok (.istore_n 0, 1) := by decide +kernel
theorem dJ6_bitCount_0f7a4_24 : decode cJ6_bitCount_0f7a4 24 = .ok (.iload_n 0, 1) := by decide +kernel
theorem dJ6_bitCount_0f7a4_25 : decode cJ6_bitCount_0f7a4 25 = .ok (.iload_n 0, 1) := by decide +kernel
theorem dJ6_bitCount_0f7a4_26 : decode cJ6_bitCount_0f7a4 26 = .ok (.iconst 4, 1) := by decide +kernel
theorem dJ6_bitCount_0f7a4_27 : decode cJ6_bitCount_0f7a4 27 = .ok (.iushr, 1) := by decide +kernel
theorem dJ6_bitCount_0f7a4_28 : decode cJ6_bitCount_0f7a4 28 = .ok (.iadd, 1) := by decide +kernel
theorem dJ6_bitCount_0f7a4_29 : decode cJ6_bitCount_0f7a4 29 = .ok (.ldc_w 267, 3) := by decide +kernel
theorem dJ6_bitCount_0f7a4_32 : decode cJ6_bitCount_0f7a4 32 = .ok (.iand, 1) := by decide +kernel
theorem dJ6_bitCount_0f7a4_33 : decode cJ6_bitCount_0f7a4 33 = .ok (.istore_n 0, 1) := by decide +kernel
theorem dJ6_bitCount_0f7a4_34 : decode cJ6_bitCount_0f7a4 34 = .ok (.iload_n 0, 1) := by decide +kernel
theorem dJ6_bitCount_0f7a4_35 : decode cJ6_bitCount_0f7a4 35 = .ok (.iload_n 0, 1) := by decide +kernel
theorem dJ6_bitCount_0f7a4_36 : decode cJ6_bitCount_0f7a4 36 = .ok (.bipush 8, 2) := by decide +kernel
theorem dJ6_bitCount_0f7a4_38 : decode cJ6_bitCount_0f7a4 38 = .ok (.iushr, 1) := by decide +kernel
theorem dJ6_bitCount_0f7a4_39 : decode cJ6_bitCount_0f7a4 39 = .ok (.iadd, 1) := by decide +kernel
theorem dJ6_bitCount_0f7a4_40 : decode cJ6_bitCount_0f7a4 40 = .ok (.istore_n 0, 1) := by decide +kernel
theorem dJ6_bitCount_0f7a4_41 : decode cJ6_bitCount_0f7a4 41 = .ok (.iload_n 0, 1) := by decide +kernel
theorem dJ6_bitCount_0f7a4_42 : decode cJ6_bitCount_0f7a4 42 = .ok (.iload_n 0, 1) := by decide +kernel
theorem dJ6_bitCount_0f7a4_43 : decode cJ6_bitCount_0f7a4 43 = .ok (.bipush 16, 2) := by decide +kernel
theorem dJ6_bitCount_0f7a4_45 : decode cJ6_bitCount_0f7a4 45 = .ok (.iushr, 1) := by decide +kernel
theorem dJ6_bitCount_0f7a4_46 : decode cJ6_bitCount_0f7a4 46 = .ok (.iadd, 1) := by decide +kernel
theorem dJ6_bitCount_0f7a4_47 : decode cJ6_bitCount_0f7a4 47 = .ok (.istore_n 0, 1) := by decide +kernel
theorem dJ6_bitCount_0f7a4_48 : decode cJ6_bitCount_0f7a4 48 = .ok (.iload_n 0, 1) := by decide +kernel
theorem dJ6_bitCount_0f7a4_49 : decode cJ6_bitCount_0f7a4 49 = .ok (.bipush 63, 2) := by decide +kernel
theorem dJ6_bitCount_0f7a4_51 : decode cJ6_bitCount_0f7a4 51 = .ok (.iand, 1) := by decide +kernel
theorem dJ6_bitCount_0f7a4_52 : decode cJ6_bitCount_0f7a4 52 = .ok (.ireturn, 1) := by decide +kernel
theorem dJ9_abs_0f7a4_0 : decode cJ9_abs_0f7a4 0 = .ok (.iload_n 0, 1) := by decide +kernel
theorem dJ9_abs_0f7a4_1 : decode cJ9_abs_0f7a4 1 = .ok (.ifCond .ge 8, 3) := by decide +kernel
theorem dJ9_abs_0f7a4_4 : decode cJ9_abs_0f7a4 4 = .ok (.iload_n 0, 1) := by decide +kernel
theorem dJ9_abs_0f7a4_5 : decode cJ9_abs_0f7a4 5 = .ok (.ineg, 1) := by decide +kernel
theorem dJ9_abs_0f7a4_6 : decode cJ9_abs_0f7a4 6 = .ok (.goto 4, 3) := by decide +kernel
theorem dJ9_abs_0f7a4_9 : decode cJ9_abs_0f7a4 9 = .ok (.iload_n 0, 1) := by decide +kernel
theorem dJ9_abs_0f7a4_10 : decode cJ9_abs_0f7a4 10 = .ok (.ireturn, 1) := by decide +kernel
theorem dJ9_max_7cf53_0 : decode cJ9_max_7cf53 0 = .ok (.iload_n 0, 1) := by decide +kernel
theorem dJ9_max_7cf53_1 : decode cJ9_max_7cf53 1 = .ok (.iload_n 1, 1) := by decide +kernel
theorem dJ9_max_7cf53_2 : decode cJ9_max_7cf53 2 = .ok (.if_icmp .lt 7, 3) := by decide +kernel
theorem dJ9_max_7cf53_5 : decode cJ9_max_7cf53 5 = .ok (.iload_n 0, 1) := by decide +kernel
theorem dJ9_max_7cf53_6 : decode cJ9_max_7cf53 6 = .ok (.goto 4, 3) := by decide +kernel
theorem dJ9_max_7cf53_9 : decode cJ9_max_7cf53 9 = .ok (.iload_n 1, 1) := by decide +kernel
theorem dJ9_max_7cf53_10 : decode cJ9_max_7cf53 10 = .ok (.ireturn, 1) := by decide +kernel
theorem dJ9_min_7cf53_0 : decode cJ9_min_7cf53 0 = .ok (.iload_n 0, 1) := by decide +kernel
theorem dJ9_min_7cf53_1 : decode cJ9_min_7cf53 1 = .ok (.iload_n 1, 1) := by decide +kernel
theorem dJ9_min_7cf53_2 : decode cJ9_min_7cf53 2 = .ok (.if_icmp .gt 7, 3) := by decide +kernel
theorem dJ9_min_7cf53_5 : decode cJ9_min_7cf53 5 = .ok (.iload_n 0, 1) := by decide +kernel
theorem dJ9_min_7cf53_6 : decode cJ9_min_7cf53 6 = .ok (.goto 4, 3) := by decide +kernel
theorem dJ9_min_7cf53_9 : decode cJ9_min_7cf53 9 = .ok (.iload_n 1, 1) := by decide +kernel
theorem dJ9_min_7cf53_10 : decode cJ9_min_7cf53 10 = .ok (.ireturn, 1) := by decide +kernel
theorem dJ9_min_f86c9_0 : decode cJ9_min_f86c9 0 = .ok (.lload_n 0, 1) := by decide +kernel
theorem dJ9_min_f86c9_1 : decode cJ9_min_f86c9 1 = .ok (.lload_n 2, 1) := by decide +kernel
theorem dJ9_min_f86c9_2 : decode cJ9_min_f86c9 2 = .ok (.lcmp, 1) := by decide +kernel
theorem dJ9_min_f86c9_3 : decode cJ9_min_f86c9 3 = .ok (.ifCond .gt 7, 3) := by decide +kernel
theorem dJ9_min_f86c9_6 : decode cJ9_min_f86c9 6 = .ok (.lload_n 0, 1) := by decide +kernel
theorem dJ9_min_f86c9_7 : decode cJ9_min_f86c9 7 = .ok (.goto 4, 3) := by decide +kernel
theorem dJ9_min_f86c9_10 : decode cJ9_min_f86c9 10 = .ok (.lload_n 2, 1) := by decide +kernel
theorem dJ9_min_f86c9_11 : decode cJ9_min_f86c9 11 = .ok (.lreturn, 1) := by decide +kernel
set_option maxRecDepth 20000 in
theorem ggJ0_length_8abf5_J0_coder_7d493 : GoodIn wsJ0_length_8abf5 wsJ0_coder_7d493 := goodIn_r _ [6, 7, 8] (by decide +kernel) (by decide +kernel)
set_option maxRecDepth 20000 in
theorem gJ0_length_8abf5_J0_coder_7d493 : GoodIn wsJ0_length_8abf5 (wsV RJ0 335 RJ0 yJ0_coder_7d493 wsJ0_coder_7d493) := goodIn_app (goodIn_of _ (by decide +kernel)) ggJ0_length_8abf5_J0_coder_7d493
theorem dJ0_length_8abf5_0 : decode cJ0_length_8abf5 0 = .ok (.aload_n 0, 1) := by decide +kernel
theorem dJ0_length_8abf5_1 : decode cJ0_length_8abf5 1 = .ok (.getfield 9, 3) := by decide +kernel
theorem dJ0_length_8abf5_4 : decode cJ0_length_8abf5 4 = .ok (.arraylength, 1) := by decide +kernel
theorem dJ0_length_8abf5_5 : decode cJ0_length_8abf5 5 = .ok (.aload_n 0, 1) := by decide +kernel
theorem dJ0_length_8abf5_6 : decode cJ0_length_8abf5 6 = .ok (.invokevirtual 335, 3) := by decide +kernel
theorem dJ0_length_8abf5_9 : decode cJ0_length_8abf5 9 = .ok (.ishr, 1) := by decide +kernel
theorem dJ0_length_8abf5_10 : decode cJ0_length_8abf5 10 = .ok (.ireturn, 1) := by decide +kernel
set_option maxRecDepth 20000 in
theorem ggJ0_charAt_5068e_J0_isLatin1_aae02 : GoodIn wsJ0_charAt_5068e wsJ0_isLatin1_aae02 := goodIn_r _ [6, 7, 8] (by decide +kernel) (by decide +kernel)
set_option maxRecDepth 20000 in
theorem gJ0_charAt_5068e_J0_isLatin1_aae02 : GoodIn wsJ0_charAt_5068e (wsV RJ0 492 RJ0 yJ0_isLatin1_aae02 wsJ0_isLatin1_aae02) := goodIn_app (goodIn_of _ (by decide +kernel)) ggJ0_charAt_5068e_J0_isLatin1_aae02
set_option maxRecDepth 20000 in
theorem ggJ0_charAt_5068e_J1_charAt_3b067 : GoodIn wsJ0_charAt_5068e wsJ1_charAt_3b067 := goodIn_r _ [12, 13, 14, 5, 15, 16, 17, 18, 19, 20] (by decide +kernel) (by decide +kernel)
set_option maxRecDepth 20000 in
theorem gJ0_charAt_5068e_J1_charAt_3b067 : GoodIn wsJ0_charAt_5068e (va_wsS RJ0 495 yJ1_charAt_3b067 wsJ1_charAt_3b067) := goodIn_app (goodIn_of _ (by decide +kernel)) ggJ0_charAt_5068e_J1_charAt_3b067
set_option maxRecDepth 20000 in
theorem ggJ0_charAt_5068e_J2_charAt_3b067 : GoodIn wsJ0_charAt_5068e wsJ2_charAt_3b067 := goodIn_r _ [24, 25, 26, 23, 27, 28, 29, 30, 31, 14, 5, 15, 16, 17, 18, 19, 20, 32, 33, 34, 35, 36, 37] (by decide +kernel) (by decide +kernel)
set_option maxRecDepth 20000 in
theorem gJ0_charAt_5068e_J2_charAt_3b067 : GoodIn wsJ0_charAt_5068e (va_wsS RJ0 498 yJ2_charAt_3b067 wsJ2_charAt_3b067) := goodIn_app (goodIn_of _ (by decide +kernel)) ggJ0_charAt_5068e_J2_charAt_3b067
theorem dJ0_charAt_5068e_0 : decode cJ0_charAt_5068e 0 = .ok (.aload_n 0, 1) := by decide +kernel
theorem dJ0_charAt_5068e_1 : decode cJ0_charAt_5068e 1 = .ok (.invokevirtual 492, 3) := by decide +kernel
theorem dJ0_charAt_5068e_4 : decode cJ0_charAt_5068e 4 = .ok (.ifCond .eq 12, 3) := by decide +kernel
theorem dJ0_charAt_5068e_7 : decode cJ0_charAt_5068e 7 = .ok (.aload_n 0, 1) := by decide +kernel
theorem dJ0_charAt_5068e_8 : decode cJ0_charAt_5068e 8 = .ok (.getfield 9, 3) := by decide +kernel
theorem dJ0_charAt_5068e_11 : decode cJ0_charAt_5068e 11 = .ok (.iload_n 1, 1) := by decide +kernel
theorem dJ0_charAt_5068e_12 : decode cJ0_charAt_5068e 12 = .ok (.invokestatic 495, 3) := by decide +kernel
theorem dJ0_charAt_5068e_15 : decode cJ0_charAt_5068e 15 = .ok (.ireturn, 1) := by decide +kernel
theorem dJ0_charAt_5068e_16 : decode cJ0_charAt_5068e 16 = .ok (.aload_n 0, 1) := by decide +kernel
theorem dJ0_charAt_5068e_17 : decode cJ0_charAt_5068e 17 = .ok (.getfield 9, 3) := by decide +kernel
theorem dJ0_charAt_5068e_20 : decode cJ0_charAt_5068e 20 = .ok (.iload_n 1, 1) := by decide +kernel
theorem dJ0_charAt_5068e_21 : decode cJ0_charAt_5068e 21 = .ok (.invokestatic 498, 3) := by decide +kernel
theorem dJ0_charAt_5068e_24 : decode cJ0_charAt_5068e 24 = .ok (.ireturn, 1) := by decide +kernel
theorem dJ0_coder_7d493_0 : decode cJ0_coder_7d493 0 = .ok (.getstatic 38, 3) := by decide +kernel
theorem dJ0_coder_7d493_3 : decode cJ0_coder_7d493 3 = .ok (.ifCond .eq 10, 3) := by decide +kernel
theorem dJ0_coder_7d493_6 : decode cJ0_coder_7d493 6 = .ok (.aload_n 0, 1) := by decide +kernel
theorem dJ0_coder_7d493_7 : decode cJ0_coder_7d493 7 = .ok (.getfield 15, 3) := by decide +kernel
theorem dJ0_coder_7d493_10 : decode cJ0_coder_7d493 10 = .ok (.goto 4, 3) := by decide +kernel
theorem dJ0_coder_7d493_13 : decode cJ0_coder_7d493 13 = .ok (.iconst 1, 1) := by decide +kernel
theorem dJ0_coder_7d493_14 : decode cJ0_coder_7d493 14 = .ok (.ireturn, 1) := by decide +kernel
theorem dJ0_isLatin1_aae02_0 : decode cJ0_isLatin1_aae02 0 = .ok (.getstatic 38, 3) := by decide +kernel
theorem dJ0_isLatin1_aae02_3 : decode cJ0_isLatin1_aae02 3 = .ok (.ifCond .eq 14, 3) := by decide +kernel
theorem dJ0_isLatin1_aae02_6 : decode cJ0_isLatin1_aae02 6 = .ok (.aload_n 0, 1) := by decide +kernel
theorem dJ0_isLatin1_aae02_7 : decode cJ0_isLatin1_aae02 7 = .ok (.getfield 15, 3) := by decide +kernel
theorem dJ0_isLatin1_aae02_10 : decode cJ0_isLatin1_aae02 10 = .ok (.ifCond .ne 7, 3) := by decide +kernel
theorem dJ0_isLatin1_aae02_13 : decode cJ0_isLatin1_aae02 13 = .ok (.iconst 1, 1) := by decide +kernel
theorem dJ0_isLatin1_aae02_14 : decode cJ0_isLatin1_aae02 14 = .ok (.goto 4, 3) := by decide +kernel
theorem dJ0_isLatin1_aae02_17 : decode cJ0_isLatin1_aae02 17 = .ok (.iconst 0, 1) := by decide +kernel
theorem dJ0_isLatin1_aae02_18 : decode cJ0_isLatin1_aae02 18 = .ok (.ireturn, 1) := by decide +kernel
set_option maxRecDepth 20000 in
theorem ggJ0_checkIndex_df160_J3_checkIndex_8e157 : GoodIn wsJ0_checkIndex_df160 wsJ3_checkIndex_8e157 := goodIn_r _ [5] (by decide +kernel) (by decide +kernel)
set_option maxRecDepth 20000 in
theorem gJ0_checkIndex_df160_J3_checkIndex_8e157 : GoodIn wsJ0_checkIndex_df160 (va_wsS RJ0 1059 yJ3_checkIndex_8e157 wsJ3_checkIndex_8e157) := goodIn_app (goodIn_of _ (by decide +kernel)) ggJ0_checkIndex_df160_J3_checkIndex_8e157
theorem dJ0_checkIndex_df160_0 : decode cJ0_checkIndex_df160 0 = .ok (.iload_n 0, 1) := by decide +kernel
theorem dJ0_checkIndex_df160_1 : decode cJ0_checkIndex_df160 1 = .ok (.iload_n 1, 1) := by decide +kernel
theorem dJ0_checkIndex_df160_2 : decode cJ0_checkIndex_df160 2 = .ok (.getstatic 1053, 3) := by decide +kernel
