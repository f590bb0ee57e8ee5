theorem dX3_nearTo_17 : decode cX3_nearTo 17 = .ok (.iload 5, 2) := by decide +kernel
theorem dX3_nearTo_19 : decode cX3_nearTo 19 = .ok (.aload_n 0, 1) := by decide +kernel
theorem dX3_nearTo_20 : decode cX3_nearTo 20 = .ok (.getfield 37, 3) := by decide +kernel
theorem dX3_nearTo_23 : decode cX3_nearTo 23 = .ok (.if_icmp .ge 48, 3) := by decide +kernel
theorem dX3_nearTo_26 : decode cX3_nearTo 26 = .ok (.iload_n 1, 1) := by decide +kernel
theorem dX3_nearTo_27 : decode cX3_nearTo 27 = .ok (.iload 5, 2) := by decide +kernel
theorem dX3_nearTo_29 : decode cX3_nearTo 29 = .ok (.ishr, 1) := by decide +kernel
theorem dX3_nearTo_30 : decode cX3_nearTo 30 = .ok (.iconst 1, 1) := by decide +kernel
theorem dX3_nearTo_31 : decode cX3_nearTo 31 = .ok (.iand, 1) := by decide +kernel
theorem dX3_nearTo_32 : decode cX3_nearTo 32 = .ok (.iconst 1, 1) := by decide +kernel
theorem dX3_nearTo_33 : decode cX3_nearTo 33 = .ok (.if_icmp .ne 32, 3) := by decide +kernel
theorem dX3_nearTo_36 : decode cX3_nearTo 36 = .ok (.aload_n 0, 1) := by decide +kernel
theorem dX3_nearTo_37 : decode cX3_nearTo 37 = .ok (.getfield 40, 3) := by decide +kernel
theorem dX3_nearTo_40 : decode cX3_nearTo 40 = .ok (.iload 4, 2) := by decide +kernel
theorem dX3_nearTo_42 : decode cX3_nearTo 42 = .ok (.iaload, 1) := by decide +kernel
theorem dX3_nearTo_43 : decode cX3_nearTo 43 = .ok (.aload_n 0, 1) := by decide +kernel
theorem dX3_nearTo_44 : decode cX3_nearTo 44 = .ok (.getfield 40, 3) := by decide +kernel
theorem dX3_nearTo_47 : decode cX3_nearTo 47 = .ok (.iload 5, 2) := by decide +kernel
theorem dX3_nearTo_49 : decode cX3_nearTo 49 = .ok (.iaload, 1) := by decide +kernel
theorem dX3_nearTo_50 : decode cX3_nearTo 50 = .ok (.isub, 1) := by decide +kernel
theorem dX3_nearTo_51 : decode cX3_nearTo 51 = .ok (.invokestatic 58, 3) := by decide +kernel
theorem dX3_nearTo_54 : decode cX3_nearTo 54 = .ok (.iload_n 2, 1) := by decide +kernel
theorem dX3_nearTo_55 : decode cX3_nearTo 55 = .ok (.if_icmp .gt 10, 3) := by decide +kernel
theorem dX3_nearTo_58 : decode cX3_nearTo 58 = .ok (.iload_n 3, 1) := by decide +kernel
theorem dX3_nearTo_59 : decode cX3_nearTo 59 = .ok (.iconst 1, 1) := by decide +kernel
theorem dX3_nearTo_60 : decode cX3_nearTo 60 = .ok (.iload 4, 2) := by decide +kernel
theorem dX3_nearTo_62 : decode cX3_nearTo 62 = .ok (.ishl, 1) := by decide +kernel
theorem dX3_nearTo_63 : decode cX3_nearTo 63 = .ok (.ior, 1) := by decide +kernel
theorem dX3_nearTo_64 : decode cX3_nearTo 64 = .ok (.istore_n 3, 1) := by decide +kernel
theorem dX3_nearTo_65 : decode cX3_nearTo 65 = .ok (.iinc 5 1, 3) := by decide +kernel
theorem dX3_nearTo_68 : decode cX3_nearTo 68 = .ok (.goto (-51), 3) := by decide +kernel
theorem dX3_nearTo_71 : decode cX3_nearTo 71 = .ok (.iinc 4 1, 3) := by decide +kernel
theorem dX3_nearTo_74 : decode cX3_nearTo 74 = .ok (.goto (-69), 3) := by decide +kernel
theorem dX3_nearTo_77 : decode cX3_nearTo 77 = .ok (.iload_n 3, 1) := by decide +kernel
theorem dX3_nearTo_78 : decode cX3_nearTo 78 = .ok (.ireturn, 1) := by decide +kernel
set_option maxRecDepth 20000 in
theorem ggX3_lengthsOf_X3_fromTo : GoodIn wsX3_lengthsOf wsX3_fromTo := goodIn_r _ [8] (by decide +kernel) (by decide +kernel)
set_option maxRecDepth 20000 in
theorem gX3_lengthsOf_X3_fromTo : GoodIn wsX3_lengthsOf (va_wsS RX3 62 yX3_fromTo wsX3_fromTo) := goodIn_app (goodIn_of _ (by decide +kernel)) ggX3_lengthsOf_X3_fromTo
theorem dX3_lengthsOf_0 : decode cX3_lengthsOf 0 = .ok (.aload_n 0, 1) := by decide +kernel
theorem dX3_lengthsOf_1 : decode cX3_lengthsOf 1 = .ok (.getfield 19, 3) := by decide +kernel
theorem dX3_lengthsOf_4 : decode cX3_lengthsOf 4 = .ok (.iload_n 1, 1) := by decide +kernel
theorem dX3_lengthsOf_5 : decode cX3_lengthsOf 5 = .ok (.iaload, 1) := by decide +kernel
theorem dX3_lengthsOf_6 : decode cX3_lengthsOf 6 = .ok (.istore_n 2, 1) := by decide +kernel
theorem dX3_lengthsOf_7 : decode cX3_lengthsOf 7 = .ok (.aload_n 0, 1) := by decide +kernel
theorem dX3_lengthsOf_8 : decode cX3_lengthsOf 8 = .ok (.getfield 22, 3) := by decide +kernel
theorem dX3_lengthsOf_11 : decode cX3_lengthsOf 11 = .ok (.iload_n 1, 1) := by decide +kernel
theorem dX3_lengthsOf_12 : decode cX3_lengthsOf 12 = .ok (.iaload, 1) := by decide +kernel
theorem dX3_lengthsOf_13 : decode cX3_lengthsOf 13 = .ok (.istore_n 3, 1) := by decide +kernel
theorem dX3_lengthsOf_14 : decode cX3_lengthsOf 14 = .ok (.aload_n 0, 1) := by decide +kernel
theorem dX3_lengthsOf_15 : decode cX3_lengthsOf 15 = .ok (.getfield 15, 3) := by decide +kernel
theorem dX3_lengthsOf_18 : decode cX3_lengthsOf 18 = .ok (.iload_n 1, 1) := by decide +kernel
theorem dX3_lengthsOf_19 : decode cX3_lengthsOf 19 = .ok (.iaload, 1) := by decide +kernel
theorem dX3_lengthsOf_20 : decode cX3_lengthsOf 20 = .ok (.tableswitch 82 0 4 #[36, 40, 46, 52, 63], 36) := by decide +kernel
theorem dX3_lengthsOf_56 : decode cX3_lengthsOf 56 = .ok (.iconst 1, 1) := by decide +kernel
theorem dX3_lengthsOf_57 : decode cX3_lengthsOf 57 = .ok (.iload_n 2, 1) := by decide +kernel
theorem dX3_lengthsOf_58 : decode cX3_lengthsOf 58 = .ok (.ishl, 1) := by decide +kernel
theorem dX3_lengthsOf_59 : decode cX3_lengthsOf 59 = .ok (.ireturn, 1) := by decide +kernel
theorem dX3_lengthsOf_60 : decode cX3_lengthsOf 60 = .ok (.iload_n 2, 1) := by decide +kernel
theorem dX3_lengthsOf_61 : decode cX3_lengthsOf 61 = .ok (.iload_n 3, 1) := by decide +kernel
theorem dX3_lengthsOf_62 : decode cX3_lengthsOf 62 = .ok (.invokestatic 62, 3) := by decide +kernel
theorem dX3_lengthsOf_65 : decode cX3_lengthsOf 65 = .ok (.ireturn, 1) := by decide +kernel
theorem dX3_lengthsOf_66 : decode cX3_lengthsOf 66 = .ok (.iconst 1, 1) := by decide +kernel
theorem dX3_lengthsOf_67 : decode cX3_lengthsOf 67 = .ok (.iconst 1, 1) := by decide +kernel
theorem dX3_lengthsOf_68 : decode cX3_lengthsOf 68 = .ok (.iload_n 2, 1) := by decide +kernel
theorem dX3_lengthsOf_69 : decode cX3_lengthsOf 69 = .ok (.ishl, 1) := by decide +kernel
theorem dX3_lengthsOf_70 : decode cX3_lengthsOf 70 = .ok (.ior, 1) := by decide +kernel
theorem dX3_lengthsOf_71 : decode cX3_lengthsOf 71 = .ok (.ireturn, 1) := by decide +kernel
theorem dX3_lengthsOf_72 : decode cX3_lengthsOf 72 = .ok (.iload_n 2, 1) := by decide +kernel
theorem dX3_lengthsOf_73 : decode cX3_lengthsOf 73 = .ok (.iload_n 3, 1) := by decide +kernel
theorem dX3_lengthsOf_74 : decode cX3_lengthsOf 74 = .ok (.invokestatic 62, 3) := by decide +kernel
theorem dX3_lengthsOf_77 : decode cX3_lengthsOf 77 = .ok (.ldc 65, 2) := by decide +kernel
theorem dX3_lengthsOf_79 : decode cX3_lengthsOf 79 = .ok (.iload_n 2, 1) := by decide +kernel
theorem dX3_lengthsOf_80 : decode cX3_lengthsOf 80 = .ok (.ishl, 1) := by decide +kernel
theorem dX3_lengthsOf_81 : decode cX3_lengthsOf 81 = .ok (.iand, 1) := by decide +kernel
theorem dX3_lengthsOf_82 : decode cX3_lengthsOf 82 = .ok (.ireturn, 1) := by decide +kernel
theorem dX3_lengthsOf_83 : decode cX3_lengthsOf 83 = .ok (.iload_n 2, 1) := by decide +kernel
theorem dX3_lengthsOf_84 : decode cX3_lengthsOf 84 = .ok (.iload_n 3, 1) := by decide +kernel
theorem dX3_lengthsOf_85 : decode cX3_lengthsOf 85 = .ok (.invokestatic 62, 3) := by decide +kernel
theorem dX3_lengthsOf_88 : decode cX3_lengthsOf 88 = .ok (.iconst 2, 1) := by decide +kernel
theorem dX3_lengthsOf_89 : decode cX3_lengthsOf 89 = .ok (.iload_n 2, 1) := by decide +kernel
theorem dX3_lengthsOf_90 : decode cX3_lengthsOf 90 = .ok (.imul, 1) := by decide +kernel
theorem dX3_lengthsOf_91 : decode cX3_lengthsOf 91 = .ok (.iconst 2, 1) := by decide +kernel
theorem dX3_lengthsOf_92 : decode cX3_lengthsOf 92 = .ok (.iload_n 3, 1) := by decide +kernel
theorem dX3_lengthsOf_93 : decode cX3_lengthsOf 93 = .ok (.imul, 1) := by decide +kernel
theorem dX3_lengthsOf_94 : decode cX3_lengthsOf 94 = .ok (.invokestatic 62, 3) := by decide +kernel
theorem dX3_lengthsOf_97 : decode cX3_lengthsOf 97 = .ok (.ldc 65, 2) := by decide +kernel
theorem dX3_lengthsOf_99 : decode cX3_lengthsOf 99 = .ok (.iand, 1) := by decide +kernel
theorem dX3_lengthsOf_100 : decode cX3_lengthsOf 100 = .ok (.ior, 1) := by decide +kernel
theorem dX3_lengthsOf_101 : decode cX3_lengthsOf 101 = .ok (.ireturn, 1) := by decide +kernel
theorem dX3_lengthsOf_102 : decode cX3_lengthsOf 102 = .ok (.iconst 0, 1) := by decide +kernel
theorem dX3_lengthsOf_103 : decode cX3_lengthsOf 103 = .ok (.iload_n 3, 1) := by decide +kernel
theorem dX3_lengthsOf_104 : decode cX3_lengthsOf 104 = .ok (.invokestatic 62, 3) := by decide +kernel
theorem dX3_lengthsOf_107 : decode cX3_lengthsOf 107 = .ok (.ireturn, 1) := by decide +kernel
theorem dX3_fromTo_0 : decode cX3_fromTo 0 = .ok (.iconst 2, 1) := by decide +kernel
theorem dX3_fromTo_1 : decode cX3_fromTo 1 = .ok (.iload_n 1, 1) := by decide +kernel
theorem dX3_fromTo_2 : decode cX3_fromTo 2 = .ok (.ishl, 1) := by decide +kernel
theorem dX3_fromTo_3 : decode cX3_fromTo 3 = .ok (.iconst 1, 1) := by decide +kernel
theorem dX3_fromTo_4 : decode cX3_fromTo 4 = .ok (.iload_n 0, 1) := by decide +kernel
theorem dX3_fromTo_5 : decode cX3_fromTo 5 = .ok (.ishl, 1) := by decide +kernel
theorem dX3_fromTo_6 : decode cX3_fromTo 6 = .ok (.isub, 1) := by decide +kernel
theorem dX3_fromTo_7 : decode cX3_fromTo 7 = .ok (.ireturn, 1) := by decide +kernel
theorem dX3_valueOf_0 : decode cX3_valueOf 0 = .ok (.aload_n 0, 1) := by decide +kernel
theorem dX3_valueOf_1 : decode cX3_valueOf 1 = .ok (.getfield 25, 3) := by decide +kernel
theorem dX3_valueOf_4 : decode cX3_valueOf 4 = .ok (.iload_n 1, 1) := by decide +kernel
theorem dX3_valueOf_5 : decode cX3_valueOf 5 = .ok (.iaload, 1) := by decide +kernel
theorem dX3_valueOf_6 : decode cX3_valueOf 6 = .ok (.istore_n 3, 1) := by decide +kernel
theorem dX3_valueOf_7 : decode cX3_valueOf 7 = .ok (.aload_n 0, 1) := by decide +kernel
theorem dX3_valueOf_8 : decode cX3_valueOf 8 = .ok (.getfield 15, 3) := by decide +kernel
theorem dX3_valueOf_11 : decode cX3_valueOf 11 = .ok (.iload_n 1, 1) := by decide +kernel
theorem dX3_valueOf_12 : decode cX3_valueOf 12 = .ok (.iaload, 1) := by decide +kernel
theorem dX3_valueOf_13 : decode cX3_valueOf 13 = .ok (.tableswitch 77 0 4 #[35, 37, 41, 51, 57], 35) := by decide +kernel
theorem dX3_valueOf_48 : decode cX3_valueOf 48 = .ok (.iload_n 3, 1) := by decide +kernel
theorem dX3_valueOf_49 : decode cX3_valueOf 49 = .ok (.ireturn, 1) := by decide +kernel
theorem dX3_valueOf_50 : decode cX3_valueOf 50 = .ok (.iload_n 3, 1) := by decide +kernel
theorem dX3_valueOf_51 : decode cX3_valueOf 51 = .ok (.iload_n 2, 1) := by decide +kernel
theorem dX3_valueOf_52 : decode cX3_valueOf 52 = .ok (.imul, 1) := by decide +kernel
theorem dX3_valueOf_53 : decode cX3_valueOf 53 = .ok (.ireturn, 1) := by decide +kernel
theorem dX3_valueOf_54 : decode cX3_valueOf 54 = .ok (.iload_n 2, 1) := by decide +kernel
theorem dX3_valueOf_55 : decode cX3_valueOf 55 = .ok (.ifCond .le 7, 3) := by decide +kernel
theorem dX3_valueOf_58 : decode cX3_valueOf 58 = .ok (.iload_n 3, 1) := by decide +kernel
theorem dX3_valueOf_59 : decode cX3_valueOf 59 = .ok (.goto 4, 3) := by decide +kernel
theorem dX3_valueOf_62 : decode cX3_valueOf 62 = .ok (.iconst 0, 1) := by decide +kernel
theorem dX3_valueOf_63 : decode cX3_valueOf 63 = .ok (.ireturn, 1) := by decide +kernel
theorem dX3_valueOf_64 : decode cX3_valueOf 64 = .ok (.iload_n 3, 1) := by decide +kernel
theorem dX3_valueOf_65 : decode cX3_valueOf 65 = .ok (.iload_n 2, 1) := by decide +kernel
theorem dX3_valueOf_66 : decode cX3_valueOf 66 = .ok (.imul, 1) := by decide +kernel
theorem dX3_valueOf_67 : decode cX3_valueOf 67 = .ok (.iconst 5, 1) := by decide +kernel
theorem dX3_valueOf_68 : decode cX3_valueOf 68 = .ok (.iadd, 1) := by decide +kernel
theorem dX3_valueOf_69 : decode cX3_valueOf 69 = .ok (.ireturn, 1) := by decide +kernel
theorem dX3_valueOf_70 : decode cX3_valueOf 70 = .ok (.iload_n 3, 1) := by decide +kernel
theorem dX3_valueOf_71 : decode cX3_valueOf 71 = .ok (.iload_n 2, 1) := by decide +kernel
theorem dX3_valueOf_72 : decode cX3_valueOf 72 = .ok (.aload_n 0, 1) := by decide +kernel
theorem dX3_valueOf_73 : decode cX3_valueOf 73 = .ok (.getfield 22, 3) := by decide +kernel
theorem dX3_valueOf_76 : decode cX3_valueOf 76 = .ok (.iload_n 1, 1) := by decide +kernel
theorem dX3_valueOf_77 : decode cX3_valueOf 77 = .ok (.iaload, 1) := by decide +kernel
theorem dX3_valueOf_78 : decode cX3_valueOf 78 = .ok (.if_icmp .le 9, 3) := by decide +kernel
theorem dX3_valueOf_81 : decode cX3_valueOf 81 = .ok (.iload_n 2, 1) := by decide +kernel
theorem dX3_valueOf_82 : decode cX3_valueOf 82 = .ok (.iconst 2, 1) := by decide +kernel
theorem dX3_valueOf_83 : decode cX3_valueOf 83 = .ok (.idiv, 1) := by decide +kernel
theorem dX3_valueOf_84 : decode cX3_valueOf 84 = .ok (.goto 4, 3) := by decide +kernel
theorem dX3_valueOf_87 : decode cX3_valueOf 87 = .ok (.iload_n 2, 1) := by decide +kernel
theorem dX3_valueOf_88 : decode cX3_valueOf 88 = .ok (.imul, 1) := by decide +kernel
theorem dX3_valueOf_89 : decode cX3_valueOf 89 = .ok (.ireturn, 1) := by decide +kernel
theorem dX3_valueOf_90 : decode cX3_valueOf 90 = .ok (.iload_n 2, 1) := by decide +kernel
theorem dX3_valueOf_91 : decode cX3_valueOf 91 = .ok (.ineg, 1) := by decide +kernel
theorem dX3_valueOf_92 : decode cX3_valueOf 92 = .ok (.ireturn, 1) := by decide +kernel
theorem dX3_shrinkTo_0 : decode cX3_shrinkTo 0 = .ok (.aload_n 0, 1) := by decide +kernel
theorem dX3_shrinkTo_1 : decode cX3_shrinkTo 1 = .ok (.iload_n 1, 1) := by decide +kernel
theorem dX3_shrinkTo_2 : decode cX3_shrinkTo 2 = .ok (.putfield 9, 3) := by decide +kernel
theorem dX3_shrinkTo_5 : decode cX3_shrinkTo 5 = .ok (.aload_n 0, 1) := by decide +kernel
theorem dX3_shrinkTo_6 : decode cX3_shrinkTo 6 = .ok (.iload_n 2, 1) := by decide +kernel
theorem dX3_shrinkTo_7 : decode cX3_shrinkTo 7 = .ok (.putfield 28, 3) := by decide +kernel
theorem dX3_shrinkTo_10 : decode cX3_shrinkTo 10 = .ok (.aload_n 0, 1) := by decide +kernel
theorem dX3_shrinkTo_11 : decode cX3_shrinkTo 11 = .ok (.iload_n 3, 1) := by decide +kernel
theorem dX3_shrinkTo_12 : decode cX3_shrinkTo 12 = .ok (.putfield 37, 3) := by decide +kernel
theorem dX3_shrinkTo_15 : decode cX3_shrinkTo 15 = .ok (.return_, 1) := by decide +kernel
theorem dX3_become_0 : decode cX3_become 0 = .ok (.aload_n 0, 1) := by decide +kernel
theorem dX3_become_1 : decode cX3_become 1 = .ok (.aload_n 1, 1) := by decide +kernel
theorem dX3_become_2 : decode cX3_become 2 = .ok (.getfield 9, 3) := by decide +kernel
theorem dX3_become_5 : decode cX3_become 5 = .ok (.putfield 9, 3) := by decide +kernel
theorem dX3_become_8 : decode cX3_become 8 = .ok (.aload_n 1, 1) := by decide +kernel
theorem dX3_become_9 : decode cX3_become 9 = .ok (.getfield 15, 3) := by decide +kernel
theorem dX3_become_12 : decode cX3_become 12 = .ok (.iconst 0, 1) := by decide +kernel
theorem dX3_become_13 : decode cX3_become 13 = .ok (.aload_n 0, 1) := by decide +kernel
theorem dX3_become_14 : decode cX3_become 14 = .ok (.getfield 15, 3) := by decide +kernel
theorem dX3_become_17 : decode cX3_become 17 = .ok (.iconst 0, 1) := by decide +kernel
theorem dX3_become_18 : decode cX3_become 18 = .ok (.bipush 16, 2) := by decide +kernel
theorem dX3_become_20 : decode cX3_become 20 = .ok (.invokestatic 66, 3) := by decide +kernel
theorem dX3_become_23 : decode cX3_become 23 = .ok (.aload_n 1, 1) := by decide +kernel
theorem dX3_become_24 : decode cX3_become 24 = .ok (.getfield 19, 3) := by decide +kernel
theorem dX3_become_27 : decode cX3_become 27 = .ok (.iconst 0, 1) := by decide +kernel
theorem dX3_become_28 : decode cX3_become 28 = .ok (.aload_n 0, 1) := by decide +kernel
theorem dX3_become_29 : decode cX3_become 29 = .ok (.getfield 19, 3) := by decide +kernel
theorem dX3_become_32 : decode cX3_become 32 = .ok (.iconst 0, 1) := by decide +kernel
theorem dX3_become_33 : decode cX3_become 33 = .ok (.bipush 16, 2) := by decide +kernel
theorem dX3_become_35 : decode cX3_become 35 = .ok (.invokestatic 66, 3) := by decide +kernel
theorem dX3_become_38 : decode cX3_become 38 = .ok (.aload_n 1, 1) := by decide +kernel
theorem dX3_become_39 : decode cX3_become 39 = .ok (.getfield 22, 3) := by decide +kernel
theorem dX3_become_42 : decode cX3_become 42 = .ok (.iconst 0, 1) := by decide +kernel
theorem dX3_become_43 : decode cX3_become 43 = .ok (.aload_n 0, 1) := by decide +kernel
theorem dX3_become_44 : decode cX3_become 44 = .ok (.getfield 22, 3) := by decide +kernel
theorem dX3_become_47 : decode cX3_become 47 = .ok (.iconst 0, 1) := by decide +kernel
theorem dX3_become_48 : decode cX3_become 48 = .ok (.bipush 16, 2) := by decide +kernel
theorem dX3_become_50 : decode cX3_become 50 = .ok (.invokestatic 66, 3) := by decide +kernel
theorem dX3_become_53 : decode cX3_become 53 = .ok (.aload_n 1, 1) := by decide +kernel
theorem dX3_become_54 : decode cX3_become 54 = .ok (.getfield 25, 3) := by decide +kernel
theorem dX3_become_57 : decode cX3_become 57 = .ok (.iconst 0, 1) := by decide +kernel
theorem dX3_become_58 : decode cX3_become 58 = .ok (.aload_n 0, 1) := by decide +kernel
theorem dX3_become_59 : decode cX3_become 59 = .ok (.getfield 25, 3) := by decide +kernel
theorem dX3_become_62 : decode cX3_become 62 = .ok (.iconst 0, 1) := by decide +kernel
theorem dX3_become_63 : decode cX3_become 63 = .ok (.bipush 16, 2) := by decide +kernel
theorem dX3_become_65 : decode cX3_become 65 = .ok (.invokestatic 66, 3) := by decide +kernel
theorem dX3_become_68 : decode cX3_become 68 = .ok (.aload_n 0, 1) := by decide +kernel
theorem dX3_become_69 : decode cX3_become 69 = .ok (.aload_n 1, 1) := by decide +kernel
theorem dX3_become_70 : decode cX3_become 70 = .ok (.getfield 28, 3) := by decide +kernel
theorem dX3_become_73 : decode cX3_become 73 = .ok (.putfield 28, 3) := by decide +kernel
theorem dX3_become_76 : decode cX3_become 76 = .ok (.aload_n 1, 1) := by decide +kernel
theorem dX3_become_77 : decode cX3_become 77 = .ok (.getfield 31, 3) := by decide +kernel
theorem dX3_become_80 : decode cX3_become 80 = .ok (.iconst 0, 1) := by decide +kernel
theorem dX3_become_81 : decode cX3_become 81 = .ok (.aload_n 0, 1) := by decide +kernel
theorem dX3_become_82 : decode cX3_become 82 = .ok (.getfield 31, 3) := by decide +kernel
theorem dX3_become_85 : decode cX3_become 85 = .ok (.iconst 0, 1) := by decide +kernel
theorem dX3_become_86 : decode cX3_become 86 = .ok (.bipush 8, 2) := by decide +kernel
theorem dX3_become_88 : decode cX3_become 88 = .ok (.invokestatic 66, 3) := by decide +kernel
theorem dX3_become_91 : decode cX3_become 91 = .ok (.aload_n 1, 1) := by decide +kernel
theorem dX3_become_92 : decode cX3_become 92 = .ok (.getfield 34, 3) := by decide +kernel
theorem dX3_become_95 : decode cX3_become 95 = .ok (.iconst 0, 1) := by decide +kernel
theorem dX3_become_96 : decode cX3_become 96 = .ok (.aload_n 0, 1) := by decide +kernel
theorem dX3_become_97 : decode cX3_become 97 = .ok (.getfield 34, 3) := by decide +kernel
theorem dX3_become_100 : decode cX3_become 100 = .ok (.iconst 0, 1) := by decide +kernel
theorem dX3_become_101 : decode cX3_become 101 = .ok (.bipush 80, 2) := by decide +kernel
theorem dX3_become_103 : decode cX3_become 103 = .ok (.invokestatic 66, 3) := by decide +kernel
theorem dX3_become_106 : decode cX3_become 106 = .ok (.aload_n 0, 1) := by decide +kernel
theorem dX3_become_107 : decode cX3_become 107 = .ok (.aload_n 1, 1) := by decide +kernel
theorem dX3_become_108 : decode cX3_become 108 = .ok (.getfield 37, 3) := by decide +kernel
theorem dX3_become_111 : decode cX3_become 111 = .ok (.putfield 37, 3) := by decide +kernel
theorem dX3_become_114 : decode cX3_become 114 = .ok (.aload_n 1, 1) := by decide +kernel
theorem dX3_become_115 : decode cX3_become 115 = .ok (.getfield 40, 3) := by decide +kernel
theorem dX3_become_118 : decode cX3_become 118 = .ok (.iconst 0, 1) := by decide +kernel
theorem dX3_become_119 : decode cX3_become 119 = .ok (.aload_n 0, 1) := by decide +kernel
theorem dX3_become_120 : decode cX3_become 120 = .ok (.getfield 40, 3) := by decide +kernel
theorem dX3_become_123 : decode cX3_become 123 = .ok (.iconst 0, 1) := by decide +kernel
theorem dX3_become_124 : decode cX3_become 124 = .ok (.bipush 10, 2) := by decide +kernel
theorem dX3_become_126 : decode cX3_become 126 = .ok (.invokestatic 66, 3) := by decide +kernel
theorem dX3_become_129 : decode cX3_become 129 = .ok (.aload_n 0, 1) := by decide +kernel
theorem dX3_become_130 : decode cX3_become 130 = .ok (.aload_n 1, 1) := by decide +kernel
theorem dX3_become_131 : decode cX3_become 131 = .ok (.getfield 43, 3) := by decide +kernel
theorem dX3_become_134 : decode cX3_become 134 = .ok (.putfield 43, 3) := by decide +kernel
theorem dX3_become_137 : decode cX3_become 137 = .ok (.return_, 1) := by decide +kernel
theorem dX4_init_0 : decode cX4_init 0 = .ok (.aload_n 0, 1) := by decide +kernel
theorem dX4_init_1 : decode cX4_init 1 = .ok (.invokespecial 3, 3) := by decide +kernel
theorem dX4_init_4 : decode cX4_init 4 = .ok (.aload_n 0, 1) := by decide +kernel
theorem dX4_init_5 : decode cX4_init 5 = .ok (.bipush 120, 2) := by decide +kernel
theorem dX4_init_7 : decode cX4_init 7 = .ok (.newarray .int, 2) := by decide +kernel
theorem dX4_init_9 : decode cX4_init 9 = .ok (.putfield 9, 3) := by decide +kernel
theorem dX4_init_12 : decode cX4_init 12 = .ok (.aload_n 0, 1) := by decide +kernel
theorem dX4_init_13 : decode cX4_init 13 = .ok (.iconst 0, 1) := by decide +kernel
theorem dX4_init_14 : decode cX4_init 14 = .ok (.putfield 15, 3) := by decide +kernel
theorem dX4_init_17 : decode cX4_init 17 = .ok (.return_, 1) := by decide +kernel
theorem dX4_put_0 : decode cX4_put 0 = .ok (.aload_n 0, 1) := by decide +kernel
theorem dX4_put_1 : decode cX4_put 1 = .ok (.getfield 15, 3) := by decide +kernel
theorem dX4_put_4 : decode cX4_put 4 = .ok (.bipush 120, 2) := by decide +kernel
theorem dX4_put_6 : decode cX4_put 6 = .ok (.if_icmp .ge 27, 3) := by decide +kernel
theorem dX4_put_9 : decode cX4_put 9 = .ok (.aload_n 0, 1) := by decide +kernel
theorem dX4_put_10 : decode cX4_put 10 = .ok (.getfield 9, 3) := by decide +kernel
theorem dX4_put_13 : decode cX4_put 13 = .ok (.aload_n 0, 1) := by decide +kernel
theorem dX4_put_14 : decode cX4_put 14 = .ok (.getfield 15, 3) := by decide +kernel
theorem dX4_put_17 : decode cX4_put 17 = .ok (.iload_n 1, 1) := by decide +kernel
theorem dX4_put_18 : decode cX4_put 18 = .ok (.sipush 255, 3) := by decide +kernel
theorem dX4_put_21 : decode cX4_put 21 = .ok (.iand, 1) := by decide +kernel
theorem dX4_put_22 : decode cX4_put 22 = .ok (.iastore, 1) := by decide +kernel
theorem dX4_put_23 : decode cX4_put 23 = .ok (.aload_n 0, 1) := by decide +kernel
theorem dX4_put_24 : decode cX4_put 24 = .ok (.dup, 1) := by decide +kernel
theorem dX4_put_25 : decode cX4_put 25 = .ok (.getfield 15, 3) := by decide +kernel
theorem dX4_put_28 : decode cX4_put 28 = .ok (.iconst 1, 1) := by decide +kernel
theorem dX4_put_29 : decode cX4_put 29 = .ok (.iadd, 1) := by decide +kernel
theorem dX4_put_30 : decode cX4_put 30 = .ok (.putfield 15, 3) := by decide +kernel
theorem dX4_put_33 : decode cX4_put 33 = .ok (.return_, 1) := by decide +kernel
theorem dX4_clear_0 : decode cX4_clear 0 = .ok (.aload_n 0, 1) := by decide +kernel
theorem dX4_clear_1 : decode cX4_clear 1 = .ok (.getfield 15, 3) := by decide +kernel
theorem dX4_clear_4 : decode cX4_clear 4 = .ok (.istore_n 1, 1) := by decide +kernel
theorem dX4_clear_5 : decode cX4_clear 5 = .ok (.aload_n 0, 1) := by decide +kernel
theorem dX4_clear_6 : decode cX4_clear 6 = .ok (.iconst 0, 1) := by decide +kernel
theorem dX4_clear_7 : decode cX4_clear 7 = .ok (.putfield 15, 3) := by decide +kernel
theorem dX4_clear_10 : decode cX4_clear 10 = .ok (.iload_n 1, 1) := by decide +kernel
theorem dX4_clear_11 : decode cX4_clear 11 = .ok (.ireturn, 1) := by decide +kernel
set_option maxRecDepth 20000 in
theorem ggX5_init_X3_init : GoodIn wsX5_init wsX3_init := goodIn_r _ [29, 30, 2, 3, 31, 26, 32, 33, 34, 35, 36, 37, 38, 39, 40, 41, 75, 76, 77, 78, 79, 80, 81, 82, 83, 84, 85] (by decide +kernel) (by decide +kernel)
set_option maxRecDepth 20000 in
theorem gX5_init_X3_init_n11 : GoodIn wsX5_init (wsX3_init) := ggX5_init_X3_init
set_option maxRecDepth 20000 in
theorem ggX5_init_X1_init : GoodIn wsX5_init wsX1_init := goodIn_r _ [44, 45, 2, 3, 46, 47, 26, 48, 49, 50, 51, 52, 53, 94, 95, 96, 97, 98, 99, 100] (by decide +kernel) (by decide +kernel)
set_option maxRecDepth 20000 in
theorem gX5_init_X1_init : GoodIn wsX5_init (wsX1_init) := ggX5_init_X1_init
set_option maxRecDepth 20000 in
theorem ggX5_init_X4_init : GoodIn wsX5_init wsX4_init := goodIn_r _ [55, 56, 2, 3, 26, 57, 58, 101, 102] (by decide +kernel) (by decide +kernel)
set_option maxRecDepth 20000 in
theorem gX5_init_X4_init_n34 : GoodIn wsX5_init (wsX4_init) := ggX5_init_X4_init
set_option maxRecDepth 20000 in
theorem ggX5_init_X0_init : GoodIn wsX5_init wsX0_init := goodIn_r _ [61, 62, 2, 3, 63, 64, 65, 66, 67, 68, 103, 104, 105, 106, 107, 108] (by decide +kernel) (by decide +kernel)
set_option maxRecDepth 20000 in
theorem gX5_init_X0_init : GoodIn wsX5_init (wsX0_init) := ggX5_init_X0_init
set_option maxRecDepth 20000 in
theorem ggX5_init_X2_init : GoodIn wsX5_init wsX2_init := goodIn_r _ [70, 71, 2, 3, 46, 72, 73, 74, 109, 110, 111] (by decide +kernel) (by decide +kernel)
set_option maxRecDepth 20000 in
theorem gX5_init_X2_init_n54 : GoodIn wsX5_init (wsX2_init) := ggX5_init_X2_init
theorem dX5_init_0 : decode cX5_init 0 = .ok (.aload_n 0, 1) := by decide +kernel
theorem dX5_init_1 : decode cX5_init 1 = .ok (.invokespecial 3, 3) := by decide +kernel
theorem dX5_init_4 : decode cX5_init 4 = .ok (.aload_n 0, 1) := by decide +kernel
theorem dX5_init_5 : decode cX5_init 5 = .ok (.new 9, 3) := by decide +kernel
theorem dX5_init_8 : decode cX5_init 8 = .ok (.dup, 1) := by decide +kernel
theorem dX5_init_9 : decode cX5_init 9 = .ok (.invokespecial 11, 3) := by decide +kernel
theorem dX5_init_12 : decode cX5_init 12 = .ok (.putfield 12, 3) := by decide +kernel
theorem dX5_init_15 : decode cX5_init 15 = .ok (.aload_n 0, 1) := by decide +kernel
theorem dX5_init_16 : decode cX5_init 16 = .ok (.new 9, 3) := by decide +kernel
theorem dX5_init_19 : decode cX5_init 19 = .ok (.dup, 1) := by decide +kernel
theorem dX5_init_20 : decode cX5_init 20 = .ok (.invokespecial 11, 3) := by decide +kernel
theorem dX5_init_23 : decode cX5_init 23 = .ok (.putfield 16, 3) := by decide +kernel
theorem dX5_init_26 : decode cX5_init 26 = .ok (.aload_n 0, 1) := by decide +kernel
theorem dX5_init_27 : decode cX5_init 27 = .ok (.iconst 0, 1) := by decide +kernel
theorem dX5_init_28 : decode cX5_init 28 = .ok (.putfield 19, 3) := by decide +kernel
theorem dX5_init_31 : decode cX5_init 31 = .ok (.aload_n 0, 1) := by decide +kernel
theorem dX5_init_32 : decode cX5_init 32 = .ok (.new 23, 3) := by decide +kernel
theorem dX5_init_35 : decode cX5_init 35 = .ok (.dup, 1) := by decide +kernel
theorem dX5_init_36 : decode cX5_init 36 = .ok (.aload_n 0, 1) := by decide +kernel
theorem dX5_init_37 : decode cX5_init 37 = .ok (.getfield 12, 3) := by decide +kernel
theorem dX5_init_40 : decode cX5_init 40 = .ok (.invokespecial 25, 3) := by decide +kernel
theorem dX5_init_43 : decode cX5_init 43 = .ok (.putfield 28, 3) := by decide +kernel
theorem dX5_init_46 : decode cX5_init 46 = .ok (.aload_n 0, 1) := by decide +kernel
theorem dX5_init_47 : decode cX5_init 47 = .ok (.new 32, 3) := by decide +kernel
theorem dX5_init_50 : decode cX5_init 50 = .ok (.dup, 1) := by decide +kernel
theorem dX5_init_51 : decode cX5_init 51 = .ok (.invokespecial 34, 3) := by decide +kernel
theorem dX5_init_54 : decode cX5_init 54 = .ok (.putfield 35, 3) := by decide +kernel
theorem dX5_init_57 : decode cX5_init 57 = .ok (.aload_n 0, 1) := by decide +kernel
theorem dX5_init_58 : decode cX5_init 58 = .ok (.new 39, 3) := by decide +kernel
theorem dX5_init_61 : decode cX5_init 61 = .ok (.dup, 1) := by decide +kernel
theorem dX5_init_62 : decode cX5_init 62 = .ok (.aload_n 0, 1) := by decide +kernel
theorem dX5_init_63 : decode cX5_init 63 = .ok (.getfield 35, 3) := by decide +kernel
theorem dX5_init_66 : decode cX5_init 66 = .ok (.aload_n 0, 1) := by decide +kernel
theorem dX5_init_67 : decode cX5_init 67 = .ok (.getfield 12, 3) := by decide +kernel
theorem dX5_init_70 : decode cX5_init 70 = .ok (.invokespecial 41, 3) := by decide +kernel
theorem dX5_init_73 : decode cX5_init 73 = .ok (.putfield 44, 3) := by decide +kernel
theorem dX5_init_76 : decode cX5_init 76 = .ok (.aload_n 0, 1) := by decide +kernel
theorem dX5_init_77 : decode cX5_init 77 = .ok (.iconst 4, 1) := by decide +kernel
theorem dX5_init_78 : decode cX5_init 78 = .ok (.anewarray 48, 3) := by decide +kernel
theorem dX5_init_81 : decode cX5_init 81 = .ok (.putfield 50, 3) := by decide +kernel
theorem dX5_init_84 : decode cX5_init 84 = .ok (.iconst 0, 1) := by decide +kernel
theorem dX5_init_85 : decode cX5_init 85 = .ok (.istore_n 1, 1) := by decide +kernel
theorem dX5_init_86 : decode cX5_init 86 = .ok (.iload_n 1, 1) := by decide +kernel
theorem dX5_init_87 : decode cX5_init 87 = .ok (.iconst 4, 1) := by decide +kernel
theorem dX5_init_88 : decode cX5_init 88 = .ok (.if_icmp .ge 22, 3) := by decide +kernel
theorem dX5_init_91 : decode cX5_init 91 = .ok (.aload_n 0, 1) := by decide +kernel
theorem dX5_init_92 : decode cX5_init 92 = .ok (.getfield 50, 3) := by decide +kernel
theorem dX5_init_95 : decode cX5_init 95 = .ok (.iload_n 1, 1) := by decide +kernel
theorem dX5_init_96 : decode cX5_init 96 = .ok (.new 48, 3) := by decide +kernel
theorem dX5_init_99 : decode cX5_init 99 = .ok (.dup, 1) := by decide +kernel
theorem dX5_init_100 : decode cX5_init 100 = .ok (.invokespecial 54, 3) := by decide +kernel
theorem dX5_init_103 : decode cX5_init 103 = .ok (.aastore, 1) := by decide +kernel
theorem dX5_init_104 : decode cX5_init 104 = .ok (.iinc 1 1, 3) := by decide +kernel
theorem dX5_init_107 : decode cX5_init 107 = .ok (.goto (-21), 3) := by decide +kernel
theorem dX5_init_110 : decode cX5_init 110 = .ok (.aload_n 0, 1) := by decide +kernel
theorem dX5_init_111 : decode cX5_init 111 = .ok (.bipush 7, 2) := by decide +kernel
theorem dX5_init_113 : decode cX5_init 113 = .ok (.newarray .int, 2) := by decide +kernel
theorem dX5_init_115 : decode cX5_init 115 = .ok (.putfield 55, 3) := by decide +kernel
theorem dX5_init_118 : decode cX5_init 118 = .ok (.return_, 1) := by decide +kernel
set_option maxRecDepth 20000 in
theorem ggX5_part_X5_isIn : GoodIn wsX5_part wsX5_isIn := goodIn_r _ [8] (by decide +kernel) (by decide +kernel)
set_option maxRecDepth 20000 in
theorem gX5_part_X5_isIn : GoodIn wsX5_part (va_wsS RX5 59 yX5_isIn wsX5_isIn) := goodIn_app (goodIn_of _ (by decide +kernel)) ggX5_part_X5_isIn
set_option maxRecDepth 20000 in
theorem ggX5_part_X5_found : GoodIn wsX5_part wsX5_found := goodIn_r _ [12, 1, 13, 5, 6, 7, 8, 24, 25, 26, 27, 28, 29, 30, 31] (by decide +kernel) (by decide +kernel)
set_option maxRecDepth 20000 in
theorem gX5_part_X5_found : GoodIn wsX5_part (wsV RX5 64 RX5 yX5_found wsX5_found) := goodIn_app (goodIn_of _ (by decide +kernel)) ggX5_part_X5_found
set_option maxRecDepth 20000 in
theorem ggX5_part_X3_addPart : GoodIn wsX5_part wsX3_addPart := goodIn_r _ [18, 19, 20, 21, 22, 23, 32, 33, 34, 35, 36, 37, 38, 39, 40, 41, 42] (by decide +kernel) (by decide +kernel)
set_option maxRecDepth 20000 in
theorem gX5_part_X3_addPart : GoodIn wsX5_part (wsV RX5 73 RX3 yX3_addPart wsX3_addPart) := goodIn_app (goodIn_of _ (by decide +kernel)) ggX5_part_X3_addPart
theorem dX5_part_0 : decode cX5_part 0 = .ok (.iload_n 1, 1) := by decide +kernel
theorem dX5_part_1 : decode cX5_part 1 = .ok (.iconst 0, 1) := by decide +kernel
theorem dX5_part_2 : decode cX5_part 2 = .ok (.iconst 5, 1) := by decide +kernel
theorem dX5_part_3 : decode cX5_part 3 = .ok (.invokestatic 59, 3) := by decide +kernel
theorem dX5_part_6 : decode cX5_part 6 = .ok (.ifCond .eq 34, 3) := by decide +kernel
theorem dX5_part_9 : decode cX5_part 9 = .ok (.iload_n 2, 1) := by decide +kernel
theorem dX5_part_10 : decode cX5_part 10 = .ok (.iconst 1, 1) := by decide +kernel
theorem dX5_part_11 : decode cX5_part 11 = .ok (.bipush 12, 2) := by decide +kernel
theorem dX5_part_13 : decode cX5_part 13 = .ok (.invokestatic 59, 3) := by decide +kernel
theorem dX5_part_16 : decode cX5_part 16 = .ok (.ifCond .eq 24, 3) := by decide +kernel
theorem dX5_part_19 : decode cX5_part 19 = .ok (.iload_n 3, 1) := by decide +kernel
theorem dX5_part_20 : decode cX5_part 20 = .ok (.iload_n 2, 1) := by decide +kernel
theorem dX5_part_21 : decode cX5_part 21 = .ok (.bipush 12, 2) := by decide +kernel
theorem dX5_part_23 : decode cX5_part 23 = .ok (.invokestatic 59, 3) := by decide +kernel
theorem dX5_part_26 : decode cX5_part 26 = .ok (.ifCond .eq 14, 3) := by decide +kernel
theorem dX5_part_29 : decode cX5_part 29 = .ok (.iload 4, 2) := by decide +kernel
theorem dX5_part_31 : decode cX5_part 31 = .ok (.iconst 0, 1) := by decide +kernel
theorem dX5_part_32 : decode cX5_part 32 = .ok (.bipush 9, 2) := by decide +kernel
theorem dX5_part_34 : decode cX5_part 34 = .ok (.invokestatic 59, 3) := by decide +kernel
theorem dX5_part_37 : decode cX5_part 37 = .ok (.ifCond .ne 10, 3) := by decide +kernel
theorem dX5_part_40 : decode cX5_part 40 = .ok (.aload_n 0, 1) := by decide +kernel
theorem dX5_part_41 : decode cX5_part 41 = .ok (.ldc 63, 2) := by decide +kernel
theorem dX5_part_43 : decode cX5_part 43 = .ok (.invokevirtual 64, 3) := by decide +kernel
theorem dX5_part_46 : decode cX5_part 46 = .ok (.ireturn, 1) := by decide +kernel
theorem dX5_part_47 : decode cX5_part 47 = .ok (.aload_n 0, 1) := by decide +kernel
theorem dX5_part_48 : decode cX5_part 48 = .ok (.getfield 12, 3) := by decide +kernel
theorem dX5_part_51 : decode cX5_part 51 = .ok (.getfield 68, 3) := by decide +kernel
theorem dX5_part_54 : decode cX5_part 54 = .ok (.bipush 16, 2) := by decide +kernel
theorem dX5_part_56 : decode cX5_part 56 = .ok (.if_icmp .lt 10, 3) := by decide +kernel
theorem dX5_part_59 : decode cX5_part 59 = .ok (.aload_n 0, 1) := by decide +kernel
theorem dX5_part_60 : decode cX5_part 60 = .ok (.ldc 72, 2) := by decide +kernel
theorem dX5_part_62 : decode cX5_part 62 = .ok (.invokevirtual 64, 3) := by decide +kernel
theorem dX5_part_65 : decode cX5_part 65 = .ok (.ireturn, 1) := by decide +kernel
theorem dX5_part_66 : decode cX5_part 66 = .ok (.aload_n 0, 1) := by decide +kernel
theorem dX5_part_67 : decode cX5_part 67 = .ok (.getfield 12, 3) := by decide +kernel
theorem dX5_part_70 : decode cX5_part 70 = .ok (.iload_n 1, 1) := by decide +kernel
theorem dX5_part_71 : decode cX5_part 71 = .ok (.iload_n 2, 1) := by decide +kernel
theorem dX5_part_72 : decode cX5_part 72 = .ok (.iload_n 3, 1) := by decide +kernel
theorem dX5_part_73 : decode cX5_part 73 = .ok (.iload 4, 2) := by decide +kernel
theorem dX5_part_75 : decode cX5_part 75 = .ok (.invokevirtual 73, 3) := by decide +kernel
theorem dX5_part_78 : decode cX5_part 78 = .ok (.ireturn, 1) := by decide +kernel
set_option maxRecDepth 20000 in
theorem ggX5_partOf_X3_hasPart : GoodIn wsX5_partOf wsX3_hasPart := goodIn_r _ [11, 12, 41, 42, 43, 44, 45, 46, 47, 48, 49, 50, 51] (by decide +kernel) (by decide +kernel)
set_option maxRecDepth 20000 in
theorem gX5_partOf_X3_hasPart : GoodIn wsX5_partOf (wsV RX5 77 RX3 yX3_hasPart wsX3_hasPart) := goodIn_app (goodIn_of _ (by decide +kernel)) ggX5_partOf_X3_hasPart
set_option maxRecDepth 20000 in
theorem ggX5_partOf_X5_found : GoodIn wsX5_partOf wsX5_found := goodIn_r _ [17, 2, 18, 19, 20, 16, 21, 33, 34, 35, 36, 37, 38, 39, 40] (by decide +kernel) (by decide +kernel)
set_option maxRecDepth 20000 in
theorem gX5_partOf_X5_found : GoodIn wsX5_partOf (wsV RX5 64 RX5 yX5_found wsX5_found) := goodIn_app (goodIn_of _ (by decide +kernel)) ggX5_partOf_X5_found
set_option maxRecDepth 20000 in
theorem ggX5_partOf_X3_lengthsOf : GoodIn wsX5_partOf wsX3_lengthsOf := goodIn_r _ [25, 26, 27, 28, 29, 30, 31, 10, 32, 41, 42, 43, 44, 45, 46, 47, 48, 49, 50, 51] (by decide +kernel) (by decide +kernel)
set_option maxRecDepth 20000 in
theorem gX5_partOf_X3_lengthsOf : GoodIn wsX5_partOf (wsV RX5 93 RX3 yX3_lengthsOf wsX3_lengthsOf) := goodIn_app (goodIn_of _ (by decide +kernel)) ggX5_partOf_X3_lengthsOf
theorem dX5_partOf_0 : decode cX5_partOf 0 = .ok (.aload_n 0, 1) := by decide +kernel
theorem dX5_partOf_1 : decode cX5_partOf 1 = .ok (.getfield 12, 3) := by decide +kernel
theorem dX5_partOf_4 : decode cX5_partOf 4 = .ok (.iload_n 1, 1) := by decide +kernel
theorem dX5_partOf_5 : decode cX5_partOf 5 = .ok (.invokevirtual 77, 3) := by decide +kernel
theorem dX5_partOf_8 : decode cX5_partOf 8 = .ok (.ifCond .ne 10, 3) := by decide +kernel
theorem dX5_partOf_11 : decode cX5_partOf 11 = .ok (.aload_n 0, 1) := by decide +kernel
theorem dX5_partOf_12 : decode cX5_partOf 12 = .ok (.ldc 63, 2) := by decide +kernel
theorem dX5_partOf_14 : decode cX5_partOf 14 = .ok (.invokevirtual 64, 3) := by decide +kernel
theorem dX5_partOf_17 : decode cX5_partOf 17 = .ok (.ireturn, 1) := by decide +kernel
theorem dX5_partOf_18 : decode cX5_partOf 18 = .ok (.iload_n 2, 1) := by decide +kernel
theorem dX5_partOf_19 : decode cX5_partOf 19 = .ok (.tableswitch 82 0 4 #[33, 43, 53, 63, 73], 33) := by decide +kernel
theorem dX5_partOf_52 : decode cX5_partOf 52 = .ok (.aload_n 0, 1) := by decide +kernel
theorem dX5_partOf_53 : decode cX5_partOf 53 = .ok (.getfield 12, 3) := by decide +kernel
theorem dX5_partOf_56 : decode cX5_partOf 56 = .ok (.getfield 81, 3) := by decide +kernel
theorem dX5_partOf_59 : decode cX5_partOf 59 = .ok (.iload_n 1, 1) := by decide +kernel
theorem dX5_partOf_60 : decode cX5_partOf 60 = .ok (.iaload, 1) := by decide +kernel
theorem dX5_partOf_61 : decode cX5_partOf 61 = .ok (.ireturn, 1) := by decide +kernel
theorem dX5_partOf_62 : decode cX5_partOf 62 = .ok (.aload_n 0, 1) := by decide +kernel
theorem dX5_partOf_63 : decode cX5_partOf 63 = .ok (.getfield 12, 3) := by decide +kernel
theorem dX5_partOf_66 : decode cX5_partOf 66 = .ok (.getfield 84, 3) := by decide +kernel
theorem dX5_partOf_69 : decode cX5_partOf 69 = .ok (.iload_n 1, 1) := by decide +kernel
theorem dX5_partOf_70 : decode cX5_partOf 70 = .ok (.iaload, 1) := by decide +kernel
theorem dX5_partOf_71 : decode cX5_partOf 71 = .ok (.ireturn, 1) := by decide +kernel
theorem dX5_partOf_72 : decode cX5_partOf 72 = .ok (.aload_n 0, 1) := by decide +kernel
theorem dX5_partOf_73 : decode cX5_partOf 73 = .ok (.getfield 12, 3) := by decide +kernel
theorem dX5_partOf_76 : decode cX5_partOf 76 = .ok (.getfield 87, 3) := by decide +kernel
theorem dX5_partOf_79 : decode cX5_partOf 79 = .ok (.iload_n 1, 1) := by decide +kernel
theorem dX5_partOf_80 : decode cX5_partOf 80 = .ok (.iaload, 1) := by decide +kernel
theorem dX5_partOf_81 : decode cX5_partOf 81 = .ok (.ireturn, 1) := by decide +kernel
theorem dX5_partOf_82 : decode cX5_partOf 82 = .ok (.aload_n 0, 1) := by decide +kernel
theorem dX5_partOf_83 : decode cX5_partOf 83 = .ok (.getfield 12, 3) := by decide +kernel
theorem dX5_partOf_86 : decode cX5_partOf 86 = .ok (.getfield 90, 3) := by decide +kernel
theorem dX5_partOf_89 : decode cX5_partOf 89 = .ok (.iload_n 1, 1) := by decide +kernel
theorem dX5_partOf_90 : decode cX5_partOf 90 = .ok (.iaload, 1) := by decide +kernel
theorem dX5_partOf_91 : decode cX5_partOf 91 = .ok (.ireturn, 1) := by decide +kernel
theorem dX5_partOf_92 : decode cX5_partOf 92 = .ok (.aload_n 0, 1) := by decide +kernel
theorem dX5_partOf_93 : decode cX5_partOf 93 = .ok (.getfield 12, 3) := by decide +kernel
theorem dX5_partOf_96 : decode cX5_partOf 96 = .ok (.iload_n 1, 1) := by decide +kernel
theorem dX5_partOf_97 : decode cX5_partOf 97 = .ok (.invokevirtual 93, 3) := by decide +kernel
theorem dX5_partOf_100 : decode cX5_partOf 100 = .ok (.ireturn, 1) := by decide +kernel
theorem dX5_partOf_101 : decode cX5_partOf 101 = .ok (.aload_n 0, 1) := by decide +kernel
theorem dX5_partOf_102 : decode cX5_partOf 102 = .ok (.ldc 63, 2) := by decide +kernel
theorem dX5_partOf_104 : decode cX5_partOf 104 = .ok (.invokevirtual 64, 3) := by decide +kernel
theorem dX5_partOf_107 : decode cX5_partOf 107 = .ok (.ireturn, 1) := by decide +kernel
set_option maxRecDepth 20000 in
theorem ggX5_set_X3_hasPart : GoodIn wsX5_set wsX3_hasPart := goodIn_r _ [10, 11, 32, 33, 34, 35, 36, 37, 38, 39, 40, 41, 42] (by decide +kernel) (by decide +kernel)
set_option maxRecDepth 20000 in
theorem gX5_set_X3_hasPart : GoodIn wsX5_set (wsV RX5 77 RX3 yX3_hasPart wsX3_hasPart) := goodIn_app (goodIn_of _ (by decide +kernel)) ggX5_set_X3_hasPart
set_option maxRecDepth 20000 in
theorem ggX5_set_X5_found : GoodIn wsX5_set wsX5_found := goodIn_r _ [16, 2, 17, 18, 19, 15, 20, 24, 25, 26, 27, 28, 29, 30, 31] (by decide +kernel) (by decide +kernel)
set_option maxRecDepth 20000 in
theorem gX5_set_X5_found : GoodIn wsX5_set (wsV RX5 64 RX5 yX5_found wsX5_found) := goodIn_app (goodIn_of _ (by decide +kernel)) ggX5_set_X5_found
set_option maxRecDepth 20000 in
theorem ggX5_set_X5_isIn : GoodIn wsX5_set wsX5_isIn := goodIn_r _ [20] (by decide +kernel) (by decide +kernel)
set_option maxRecDepth 20000 in
theorem gX5_set_X5_isIn : GoodIn wsX5_set (va_wsS RX5 59 yX5_isIn wsX5_isIn) := goodIn_app (goodIn_of _ (by decide +kernel)) ggX5_set_X5_isIn
set_option maxRecDepth 20000 in
theorem ggX5_set_X5_swap : GoodIn wsX5_set wsX5_swap := goodIn_r _ [23] (by decide +kernel) (by decide +kernel)
set_option maxRecDepth 20000 in
theorem gX5_set_X5_swap : GoodIn wsX5_set (va_wsS RX5 96 yX5_swap wsX5_swap) := goodIn_app (goodIn_of _ (by decide +kernel)) ggX5_set_X5_swap
theorem dX5_set_0 : decode cX5_set 0 = .ok (.aload_n 0, 1) := by decide +kernel
theorem dX5_set_1 : decode cX5_set 1 = .ok (.getfield 12, 3) := by decide +kernel
theorem dX5_set_4 : decode cX5_set 4 = .ok (.iload_n 1, 1) := by decide +kernel
theorem dX5_set_5 : decode cX5_set 5 = .ok (.invokevirtual 77, 3) := by decide +kernel
theorem dX5_set_8 : decode cX5_set 8 = .ok (.ifCond .ne 10, 3) := by decide +kernel
theorem dX5_set_11 : decode cX5_set 11 = .ok (.aload_n 0, 1) := by decide +kernel
theorem dX5_set_12 : decode cX5_set 12 = .ok (.ldc 63, 2) := by decide +kernel
theorem dX5_set_14 : decode cX5_set 14 = .ok (.invokevirtual 64, 3) := by decide +kernel
theorem dX5_set_17 : decode cX5_set 17 = .ok (.ireturn, 1) := by decide +kernel
theorem dX5_set_18 : decode cX5_set 18 = .ok (.iload_n 2, 1) := by decide +kernel
theorem dX5_set_19 : decode cX5_set 19 = .ok (.tableswitch 136 1 3 #[25, 64, 104], 25) := by decide +kernel
theorem dX5_set_44 : decode cX5_set 44 = .ok (.iload_n 3, 1) := by decide +kernel
theorem dX5_set_45 : decode cX5_set 45 = .ok (.iconst 1, 1) := by decide +kernel
theorem dX5_set_46 : decode cX5_set 46 = .ok (.aload_n 0, 1) := by decide +kernel
theorem dX5_set_47 : decode cX5_set 47 = .ok (.getfield 12, 3) := by decide +kernel
theorem dX5_set_50 : decode cX5_set 50 = .ok (.getfield 87, 3) := by decide +kernel
theorem dX5_set_53 : decode cX5_set 53 = .ok (.iload_n 1, 1) := by decide +kernel
theorem dX5_set_54 : decode cX5_set 54 = .ok (.iaload, 1) := by decide +kernel
theorem dX5_set_55 : decode cX5_set 55 = .ok (.invokestatic 59, 3) := by decide +kernel
theorem dX5_set_58 : decode cX5_set 58 = .ok (.ifCond .eq 18, 3) := by decide +kernel
theorem dX5_set_61 : decode cX5_set 61 = .ok (.aload_n 0, 1) := by decide +kernel
theorem dX5_set_62 : decode cX5_set 62 = .ok (.getfield 12, 3) := by decide +kernel
theorem dX5_set_65 : decode cX5_set 65 = .ok (.getfield 84, 3) := by decide +kernel
theorem dX5_set_68 : decode cX5_set 68 = .ok (.iload_n 1, 1) := by decide +kernel
theorem dX5_set_69 : decode cX5_set 69 = .ok (.iload_n 3, 1) := by decide +kernel
theorem dX5_set_70 : decode cX5_set 70 = .ok (.invokestatic 96, 3) := by decide +kernel
theorem dX5_set_73 : decode cX5_set 73 = .ok (.goto 9, 3) := by decide +kernel
theorem dX5_set_76 : decode cX5_set 76 = .ok (.aload_n 0, 1) := by decide +kernel
theorem dX5_set_77 : decode cX5_set 77 = .ok (.ldc 63, 2) := by decide +kernel
theorem dX5_set_79 : decode cX5_set 79 = .ok (.invokevirtual 64, 3) := by decide +kernel
theorem dX5_set_82 : decode cX5_set 82 = .ok (.ireturn, 1) := by decide +kernel
theorem dX5_set_83 : decode cX5_set 83 = .ok (.iload_n 3, 1) := by decide +kernel
theorem dX5_set_84 : decode cX5_set 84 = .ok (.aload_n 0, 1) := by decide +kernel
theorem dX5_set_85 : decode cX5_set 85 = .ok (.getfield 12, 3) := by decide +kernel
theorem dX5_set_88 : decode cX5_set 88 = .ok (.getfield 84, 3) := by decide +kernel
theorem dX5_set_91 : decode cX5_set 91 = .ok (.iload_n 1, 1) := by decide +kernel
theorem dX5_set_92 : decode cX5_set 92 = .ok (.iaload, 1) := by decide +kernel
theorem dX5_set_93 : decode cX5_set 93 = .ok (.bipush 12, 2) := by decide +kernel
theorem dX5_set_95 : decode cX5_set 95 = .ok (.invokestatic 59, 3) := by decide +kernel
theorem dX5_set_98 : decode cX5_set 98 = .ok (.ifCond .eq 18, 3) := by decide +kernel
theorem dX5_set_101 : decode cX5_set 101 = .ok (.aload_n 0, 1) := by decide +kernel
theorem dX5_set_102 : decode cX5_set 102 = .ok (.getfield 12, 3) := by decide +kernel
theorem dX5_set_105 : decode cX5_set 105 = .ok (.getfield 87, 3) := by decide +kernel
theorem dX5_set_108 : decode cX5_set 108 = .ok (.iload_n 1, 1) := by decide +kernel
theorem dX5_set_109 : decode cX5_set 109 = .ok (.iload_n 3, 1) := by decide +kernel
theorem dX5_set_110 : decode cX5_set 110 = .ok (.invokestatic 96, 3) := by decide +kernel
theorem dX5_set_113 : decode cX5_set 113 = .ok (.goto 9, 3) := by decide +kernel
theorem dX5_set_116 : decode cX5_set 116 = .ok (.aload_n 0, 1) := by decide +kernel
theorem dX5_set_117 : decode cX5_set 117 = .ok (.ldc 63, 2) := by decide +kernel
theorem dX5_set_119 : decode cX5_set 119 = .ok (.invokevirtual 64, 3) := by decide +kernel
theorem dX5_set_122 : decode cX5_set 122 = .ok (.ireturn, 1) := by decide +kernel
theorem dX5_set_123 : decode cX5_set 123 = .ok (.iload_n 3, 1) := by decide +kernel
theorem dX5_set_124 : decode cX5_set 124 = .ok (.iconst 0, 1) := by decide +kernel
theorem dX5_set_125 : decode cX5_set 125 = .ok (.bipush 9, 2) := by decide +kernel
theorem dX5_set_127 : decode cX5_set 127 = .ok (.invokestatic 59, 3) := by decide +kernel
theorem dX5_set_130 : decode cX5_set 130 = .ok (.ifCond .eq 18, 3) := by decide +kernel
theorem dX5_set_133 : decode cX5_set 133 = .ok (.aload_n 0, 1) := by decide +kernel
theorem dX5_set_134 : decode cX5_set 134 = .ok (.getfield 12, 3) := by decide +kernel
theorem dX5_set_137 : decode cX5_set 137 = .ok (.getfield 90, 3) := by decide +kernel
theorem dX5_set_140 : decode cX5_set 140 = .ok (.iload_n 1, 1) := by decide +kernel
theorem dX5_set_141 : decode cX5_set 141 = .ok (.iload_n 3, 1) := by decide +kernel
theorem dX5_set_142 : decode cX5_set 142 = .ok (.invokestatic 96, 3) := by decide +kernel
theorem dX5_set_145 : decode cX5_set 145 = .ok (.goto 9, 3) := by decide +kernel
theorem dX5_set_148 : decode cX5_set 148 = .ok (.aload_n 0, 1) := by decide +kernel
theorem dX5_set_149 : decode cX5_set 149 = .ok (.ldc 63, 2) := by decide +kernel
theorem dX5_set_151 : decode cX5_set 151 = .ok (.invokevirtual 64, 3) := by decide +kernel
theorem dX5_set_154 : decode cX5_set 154 = .ok (.ireturn, 1) := by decide +kernel
theorem dX5_set_155 : decode cX5_set 155 = .ok (.aload_n 0, 1) := by decide +kernel
theorem dX5_set_156 : decode cX5_set 156 = .ok (.ldc 63, 2) := by decide +kernel
theorem dX5_set_158 : decode cX5_set 158 = .ok (.invokevirtual 64, 3) := by decide +kernel
theorem dX5_set_161 : decode cX5_set 161 = .ok (.ireturn, 1) := by decide +kernel
set_option maxRecDepth 20000 in
theorem ggX5_turn_X3_hasPart : GoodIn wsX5_turn wsX3_hasPart := goodIn_r _ [8, 9, 30, 31, 32, 33, 34, 35, 36, 37, 38, 39, 40] (by decide +kernel) (by decide +kernel)
set_option maxRecDepth 20000 in
theorem gX5_turn_X3_hasPart : GoodIn wsX5_turn (wsV RX5 77 RX3 yX3_hasPart wsX3_hasPart) := goodIn_app (goodIn_of _ (by decide +kernel)) ggX5_turn_X3_hasPart
set_option maxRecDepth 20000 in
theorem ggX5_turn_X5_isIn : GoodIn wsX5_turn wsX5_isIn := goodIn_r _ [13] (by decide +kernel) (by decide +kernel)
set_option maxRecDepth 20000 in
theorem gX5_turn_X5_isIn : GoodIn wsX5_turn (va_wsS RX5 59 yX5_isIn wsX5_isIn) := goodIn_app (goodIn_of _ (by decide +kernel)) ggX5_turn_X5_isIn
set_option maxRecDepth 20000 in
theorem ggX5_turn_X5_found : GoodIn wsX5_turn wsX5_found := goodIn_r _ [17, 2, 18, 10, 11, 12, 13, 22, 23, 24, 25, 26, 27, 28, 29] (by decide +kernel) (by decide +kernel)
set_option maxRecDepth 20000 in
theorem gX5_turn_X5_found : GoodIn wsX5_turn (wsV RX5 64 RX5 yX5_found wsX5_found) := goodIn_app (goodIn_of _ (by decide +kernel)) ggX5_turn_X5_found
set_option maxRecDepth 20000 in
theorem ggX5_turn_X5_swap : GoodIn wsX5_turn wsX5_swap := goodIn_r _ [21] (by decide +kernel) (by decide +kernel)
set_option maxRecDepth 20000 in
theorem gX5_turn_X5_swap : GoodIn wsX5_turn (va_wsS RX5 96 yX5_swap wsX5_swap) := goodIn_app (goodIn_of _ (by decide +kernel)) ggX5_turn_X5_swap
theorem dX5_turn_0 : decode cX5_turn 0 = .ok (.aload_n 0, 1) := by decide +kernel
theorem dX5_turn_1 : decode cX5_turn 1 = .ok (.getfield 12, 3) := by decide +kernel
theorem dX5_turn_4 : decode cX5_turn 4 = .ok (.iload_n 1, 1) := by decide +kernel
theorem dX5_turn_5 : decode cX5_turn 5 = .ok (.invokevirtual 77, 3) := by decide +kernel
theorem dX5_turn_8 : decode cX5_turn 8 = .ok (.ifCond .eq 12, 3) := by decide +kernel
theorem dX5_turn_11 : decode cX5_turn 11 = .ok (.iload_n 2, 1) := by decide +kernel
theorem dX5_turn_12 : decode cX5_turn 12 = .ok (.iconst 0, 1) := by decide +kernel
theorem dX5_turn_13 : decode cX5_turn 13 = .ok (.iconst 5, 1) := by decide +kernel
theorem dX5_turn_14 : decode cX5_turn 14 = .ok (.invokestatic 59, 3) := by decide +kernel
theorem dX5_turn_17 : decode cX5_turn 17 = .ok (.ifCond .ne 10, 3) := by decide +kernel
theorem dX5_turn_20 : decode cX5_turn 20 = .ok (.aload_n 0, 1) := by decide +kernel
theorem dX5_turn_21 : decode cX5_turn 21 = .ok (.ldc 63, 2) := by decide +kernel
theorem dX5_turn_23 : decode cX5_turn 23 = .ok (.invokevirtual 64, 3) := by decide +kernel
theorem dX5_turn_26 : decode cX5_turn 26 = .ok (.ireturn, 1) := by decide +kernel
theorem dX5_turn_27 : decode cX5_turn 27 = .ok (.aload_n 0, 1) := by decide +kernel
theorem dX5_turn_28 : decode cX5_turn 28 = .ok (.getfield 12, 3) := by decide +kernel
theorem dX5_turn_31 : decode cX5_turn 31 = .ok (.getfield 81, 3) := by decide +kernel
theorem dX5_turn_34 : decode cX5_turn 34 = .ok (.iload_n 1, 1) := by decide +kernel
theorem dX5_turn_35 : decode cX5_turn 35 = .ok (.iload_n 2, 1) := by decide +kernel
theorem dX5_turn_36 : decode cX5_turn 36 = .ok (.invokestatic 96, 3) := by decide +kernel
theorem dX5_turn_39 : decode cX5_turn 39 = .ok (.ireturn, 1) := by decide +kernel
set_option maxRecDepth 20000 in
theorem ggX5_as_X3_hasPart : GoodIn wsX5_as wsX3_hasPart := goodIn_r _ [10, 11, 33, 34, 35, 36, 37, 38, 39, 40, 41, 42, 43] (by decide +kernel) (by decide +kernel)
set_option maxRecDepth 20000 in
theorem gX5_as_X3_hasPart : GoodIn wsX5_as (wsV RX5 77 RX3 yX3_hasPart wsX3_hasPart) := goodIn_app (goodIn_of _ (by decide +kernel)) ggX5_as_X3_hasPart
set_option maxRecDepth 20000 in
theorem ggX5_as_X5_isIn : GoodIn wsX5_as wsX5_isIn := goodIn_r _ [15] (by decide +kernel) (by decide +kernel)
set_option maxRecDepth 20000 in
theorem gX5_as_X5_isIn : GoodIn wsX5_as (va_wsS RX5 59 yX5_isIn wsX5_isIn) := goodIn_app (goodIn_of _ (by decide +kernel)) ggX5_as_X5_isIn
set_option maxRecDepth 20000 in
theorem ggX5_as_X5_found : GoodIn wsX5_as wsX5_found := goodIn_r _ [19, 2, 20, 12, 13, 14, 15, 25, 26, 27, 28, 29, 30, 31, 32] (by decide +kernel) (by decide +kernel)
set_option maxRecDepth 20000 in
theorem gX5_as_X5_found : GoodIn wsX5_as (wsV RX5 64 RX5 yX5_found wsX5_found) := goodIn_app (goodIn_of _ (by decide +kernel)) ggX5_as_X5_found
set_option maxRecDepth 20000 in
theorem ggX5_as_X5_isUnder : GoodIn wsX5_as wsX5_isUnder := goodIn_r _ [23, 24] (by decide +kernel) (by decide +kernel)
set_option maxRecDepth 20000 in
theorem gX5_as_X5_isUnder : GoodIn wsX5_as (va_wsS RX5 100 yX5_isUnder wsX5_isUnder) := goodIn_app (goodIn_of _ (by decide +kernel)) ggX5_as_X5_isUnder
theorem dX5_as_0 : decode cX5_as 0 = .ok (.aload_n 0, 1) := by decide +kernel
theorem dX5_as_1 : decode cX5_as 1 = .ok (.getfield 12, 3) := by decide +kernel
theorem dX5_as_4 : decode cX5_as 4 = .ok (.iload_n 1, 1) := by decide +kernel
theorem dX5_as_5 : decode cX5_as 5 = .ok (.invokevirtual 77, 3) := by decide +kernel
theorem dX5_as_8 : decode cX5_as 8 = .ok (.ifCond .eq 12, 3) := by decide +kernel
theorem dX5_as_11 : decode cX5_as 11 = .ok (.iload_n 2, 1) := by decide +kernel
theorem dX5_as_12 : decode cX5_as 12 = .ok (.iconst 0, 1) := by decide +kernel
theorem dX5_as_13 : decode cX5_as 13 = .ok (.iconst 5, 1) := by decide +kernel
theorem dX5_as_14 : decode cX5_as 14 = .ok (.invokestatic 59, 3) := by decide +kernel
theorem dX5_as_17 : decode cX5_as 17 = .ok (.ifCond .ne 10, 3) := by decide +kernel
theorem dX5_as_20 : decode cX5_as 20 = .ok (.aload_n 0, 1) := by decide +kernel
theorem dX5_as_21 : decode cX5_as 21 = .ok (.ldc 63, 2) := by decide +kernel
theorem dX5_as_23 : decode cX5_as 23 = .ok (.invokevirtual 64, 3) := by decide +kernel
theorem dX5_as_26 : decode cX5_as 26 = .ok (.ireturn, 1) := by decide +kernel
theorem dX5_as_27 : decode cX5_as 27 = .ok (.aload_n 0, 1) := by decide +kernel
theorem dX5_as_28 : decode cX5_as 28 = .ok (.getfield 12, 3) := by decide +kernel
theorem dX5_as_31 : decode cX5_as 31 = .ok (.getfield 81, 3) := by decide +kernel
theorem dX5_as_34 : decode cX5_as 34 = .ok (.iload_n 1, 1) := by decide +kernel
theorem dX5_as_35 : decode cX5_as 35 = .ok (.iaload, 1) := by decide +kernel
theorem dX5_as_36 : decode cX5_as 36 = .ok (.iload_n 2, 1) := by decide +kernel
theorem dX5_as_37 : decode cX5_as 37 = .ok (.invokestatic 100, 3) := by decide +kernel
theorem dX5_as_40 : decode cX5_as 40 = .ok (.ifCond .eq 15, 3) := by decide +kernel
theorem dX5_as_43 : decode cX5_as 43 = .ok (.aload_n 0, 1) := by decide +kernel
theorem dX5_as_44 : decode cX5_as 44 = .ok (.getfield 12, 3) := by decide +kernel
theorem dX5_as_47 : decode cX5_as 47 = .ok (.getfield 90, 3) := by decide +kernel
theorem dX5_as_50 : decode cX5_as 50 = .ok (.iload_n 1, 1) := by decide +kernel
theorem dX5_as_51 : decode cX5_as 51 = .ok (.iaload, 1) := by decide +kernel
theorem dX5_as_52 : decode cX5_as 52 = .ok (.goto 9, 3) := by decide +kernel
theorem dX5_as_55 : decode cX5_as 55 = .ok (.aload_n 0, 1) := by decide +kernel
theorem dX5_as_56 : decode cX5_as 56 = .ok (.ldc 104, 2) := by decide +kernel
theorem dX5_as_58 : decode cX5_as 58 = .ok (.invokevirtual 64, 3) := by decide +kernel
theorem dX5_as_61 : decode cX5_as 61 = .ok (.ireturn, 1) := by decide +kernel
set_option maxRecDepth 20000 in
theorem ggX5_value_X3_hasPart : GoodIn wsX5_value wsX3_hasPart := goodIn_r _ [7, 8, 46, 47, 48, 49, 50, 51, 52, 53, 54, 55, 56] (by decide +kernel) (by decide +kernel)
set_option maxRecDepth 20000 in
theorem gX5_value_X3_hasPart : GoodIn wsX5_value (wsV RX5 77 RX3 yX3_hasPart wsX3_hasPart) := goodIn_app (goodIn_of _ (by decide +kernel)) ggX5_value_X3_hasPart
set_option maxRecDepth 20000 in
theorem ggX5_value_X3_lengthsOf : GoodIn wsX5_value wsX3_lengthsOf := goodIn_r _ [12, 13, 14, 15, 16, 17, 18, 6, 19, 46, 47, 48, 49, 50, 51, 52, 53, 54, 55, 56] (by decide +kernel) (by decide +kernel)
set_option maxRecDepth 20000 in
theorem gX5_value_X3_lengthsOf : GoodIn wsX5_value (wsV RX5 93 RX3 yX3_lengthsOf wsX3_lengthsOf) := goodIn_app (goodIn_of _ (by decide +kernel)) ggX5_value_X3_lengthsOf
set_option maxRecDepth 20000 in
theorem ggX5_value_X5_isLength : GoodIn wsX5_value wsX5_isLength := goodIn_r _ [23, 24] (by decide +kernel) (by decide +kernel)
set_option maxRecDepth 20000 in
theorem gX5_value_X5_isLength : GoodIn wsX5_value (va_wsS RX5 105 yX5_isLength wsX5_isLength) := goodIn_app (goodIn_of _ (by decide +kernel)) ggX5_value_X5_isLength
set_option maxRecDepth 20000 in
theorem ggX5_value_X5_found : GoodIn wsX5_value wsX5_found := goodIn_r _ [28, 2, 29, 30, 31, 22, 32, 38, 39, 40, 41, 42, 43, 44, 45] (by decide +kernel) (by decide +kernel)
set_option maxRecDepth 20000 in
theorem gX5_value_X5_found : GoodIn wsX5_value (wsV RX5 64 RX5 yX5_found wsX5_found) := goodIn_app (goodIn_of _ (by decide +kernel)) ggX5_value_X5_found
set_option maxRecDepth 20000 in
theorem ggX5_value_X3_valueOf : GoodIn wsX5_value wsX3_valueOf := goodIn_r _ [36, 37, 15, 14, 46, 47, 48, 49, 50, 51, 52, 53, 54, 55, 56] (by decide +kernel) (by decide +kernel)
set_option maxRecDepth 20000 in
theorem gX5_value_X3_valueOf : GoodIn wsX5_value (wsV RX5 109 RX3 yX3_valueOf wsX3_valueOf) := goodIn_app (goodIn_of _ (by decide +kernel)) ggX5_value_X3_valueOf
theorem dX5_value_0 : decode cX5_value 0 = .ok (.aload_n 0, 1) := by decide +kernel
theorem dX5_value_1 : decode cX5_value 1 = .ok (.getfield 12, 3) := by decide +kernel
theorem dX5_value_4 : decode cX5_value 4 = .ok (.iload_n 1, 1) := by decide +kernel
theorem dX5_value_5 : decode cX5_value 5 = .ok (.invokevirtual 77, 3) := by decide +kernel
theorem dX5_value_8 : decode cX5_value 8 = .ok (.ifCond .eq 19, 3) := by decide +kernel
theorem dX5_value_11 : decode cX5_value 11 = .ok (.aload_n 0, 1) := by decide +kernel
theorem dX5_value_12 : decode cX5_value 12 = .ok (.getfield 12, 3) := by decide +kernel
theorem dX5_value_15 : decode cX5_value 15 = .ok (.iload_n 1, 1) := by decide +kernel
theorem dX5_value_16 : decode cX5_value 16 = .ok (.invokevirtual 93, 3) := by decide +kernel
theorem dX5_value_19 : decode cX5_value 19 = .ok (.iload_n 2, 1) := by decide +kernel
theorem dX5_value_20 : decode cX5_value 20 = .ok (.i2l, 1) := by decide +kernel
theorem dX5_value_21 : decode cX5_value 21 = .ok (.invokestatic 105, 3) := by decide +kernel
theorem dX5_value_24 : decode cX5_value 24 = .ok (.ifCond .ne 10, 3) := by decide +kernel
theorem dX5_value_27 : decode cX5_value 27 = .ok (.aload_n 0, 1) := by decide +kernel
theorem dX5_value_28 : decode cX5_value 28 = .ok (.ldc 63, 2) := by decide +kernel
theorem dX5_value_30 : decode cX5_value 30 = .ok (.invokevirtual 64, 3) := by decide +kernel
theorem dX5_value_33 : decode cX5_value 33 = .ok (.ireturn, 1) := by decide +kernel
theorem dX5_value_34 : decode cX5_value 34 = .ok (.aload_n 0, 1) := by decide +kernel
theorem dX5_value_35 : decode cX5_value 35 = .ok (.getfield 12, 3) := by decide +kernel
theorem dX5_value_38 : decode cX5_value 38 = .ok (.iload_n 1, 1) := by decide +kernel
theorem dX5_value_39 : decode cX5_value 39 = .ok (.iload_n 2, 1) := by decide +kernel
theorem dX5_value_40 : decode cX5_value 40 = .ok (.invokevirtual 109, 3) := by decide +kernel
theorem dX5_value_43 : decode cX5_value 43 = .ok (.ireturn, 1) := by decide +kernel
set_option maxRecDepth 20000 in
theorem ggX5_tale_X5_found : GoodIn wsX5_tale wsX5_found := goodIn_r _ [8, 9, 10, 11, 12, 7, 13, 21, 22, 23, 24, 25, 26, 27, 28] (by decide +kernel) (by decide +kernel)
set_option maxRecDepth 20000 in
theorem gX5_tale_X5_found : GoodIn wsX5_tale (wsV RX5 64 RX5 yX5_found wsX5_found) := goodIn_app (goodIn_of _ (by decide +kernel)) ggX5_tale_X5_found
set_option maxRecDepth 20000 in
theorem ggX5_tale_X3_addTale : GoodIn wsX5_tale wsX3_addTale := goodIn_r _ [18, 19, 20, 29, 30, 31, 32, 33, 34, 35, 36, 37, 38, 39] (by decide +kernel) (by decide +kernel)
set_option maxRecDepth 20000 in
theorem gX5_tale_X3_addTale : GoodIn wsX5_tale (wsV RX5 116 RX3 yX3_addTale wsX3_addTale) := goodIn_app (goodIn_of _ (by decide +kernel)) ggX5_tale_X3_addTale
theorem dX5_tale_0 : decode cX5_tale 0 = .ok (.aload_n 0, 1) := by decide +kernel
theorem dX5_tale_1 : decode cX5_tale 1 = .ok (.getfield 12, 3) := by decide +kernel
theorem dX5_tale_4 : decode cX5_tale 4 = .ok (.getfield 113, 3) := by decide +kernel
theorem dX5_tale_7 : decode cX5_tale 7 = .ok (.bipush 8, 2) := by decide +kernel
theorem dX5_tale_9 : decode cX5_tale 9 = .ok (.if_icmp .lt 12, 3) := by decide +kernel
theorem dX5_tale_12 : decode cX5_tale 12 = .ok (.aload_n 0, 1) := by decide +kernel
theorem dX5_tale_13 : decode cX5_tale 13 = .ok (.ldc 72, 2) := by decide +kernel
theorem dX5_tale_15 : decode cX5_tale 15 = .ok (.invokevirtual 64, 3) := by decide +kernel
theorem dX5_tale_18 : decode cX5_tale 18 = .ok (.goto 10, 3) := by decide +kernel
theorem dX5_tale_21 : decode cX5_tale 21 = .ok (.aload_n 0, 1) := by decide +kernel
theorem dX5_tale_22 : decode cX5_tale 22 = .ok (.getfield 12, 3) := by decide +kernel
theorem dX5_tale_25 : decode cX5_tale 25 = .ok (.invokevirtual 116, 3) := by decide +kernel
theorem dX5_tale_28 : decode cX5_tale 28 = .ok (.ireturn, 1) := by decide +kernel
set_option maxRecDepth 20000 in
theorem ggX5_tell_X3_hasTale : GoodIn wsX5_tell wsX3_hasTale := goodIn_r _ [9, 10, 39, 40, 41, 42, 43, 44, 45, 46, 47, 48, 49] (by decide +kernel) (by decide +kernel)
set_option maxRecDepth 20000 in
theorem gX5_tell_X3_hasTale : GoodIn wsX5_tell (wsV RX5 120 RX3 yX3_hasTale wsX3_hasTale) := goodIn_app (goodIn_of _ (by decide +kernel)) ggX5_tell_X3_hasTale
set_option maxRecDepth 20000 in
theorem ggX5_tell_X3_hasPart : GoodIn wsX5_tell wsX3_hasPart := goodIn_r _ [14, 15, 39, 40, 41, 42, 43, 44, 45, 46, 47, 48, 49] (by decide +kernel) (by decide +kernel)
set_option maxRecDepth 20000 in
theorem gX5_tell_X3_hasPart : GoodIn wsX5_tell (wsV RX5 77 RX3 yX3_hasPart wsX3_hasPart) := goodIn_app (goodIn_of _ (by decide +kernel)) ggX5_tell_X3_hasPart
set_option maxRecDepth 20000 in
theorem ggX5_tell_X5_found : GoodIn wsX5_tell wsX5_found := goodIn_r _ [20, 2, 21, 22, 23, 19, 24, 31, 32, 33, 34, 35, 36, 37, 38] (by decide +kernel) (by decide +kernel)
set_option maxRecDepth 20000 in
theorem gX5_tell_X5_found : GoodIn wsX5_tell (wsV RX5 64 RX5 yX5_found wsX5_found) := goodIn_app (goodIn_of _ (by decide +kernel)) ggX5_tell_X5_found
set_option maxRecDepth 20000 in
theorem ggX5_tell_X3_addTold : GoodIn wsX5_tell wsX3_addTold := goodIn_r _ [28, 29, 30, 39, 40, 41, 42, 43, 44, 45, 46, 47, 48, 49] (by decide +kernel) (by decide +kernel)
set_option maxRecDepth 20000 in
theorem gX5_tell_X3_addTold : GoodIn wsX5_tell (wsV RX5 126 RX3 yX3_addTold wsX3_addTold) := goodIn_app (goodIn_of _ (by decide +kernel)) ggX5_tell_X3_addTold
theorem dX5_tell_0 : decode cX5_tell 0 = .ok (.aload_n 0, 1) := by decide +kernel
theorem dX5_tell_1 : decode cX5_tell 1 = .ok (.getfield 12, 3) := by decide +kernel
theorem dX5_tell_4 : decode cX5_tell 4 = .ok (.iload_n 1, 1) := by decide +kernel
theorem dX5_tell_5 : decode cX5_tell 5 = .ok (.invokevirtual 120, 3) := by decide +kernel
theorem dX5_tell_8 : decode cX5_tell 8 = .ok (.ifCond .eq 14, 3) := by decide +kernel
theorem dX5_tell_11 : decode cX5_tell 11 = .ok (.aload_n 0, 1) := by decide +kernel
theorem dX5_tell_12 : decode cX5_tell 12 = .ok (.getfield 12, 3) := by decide +kernel
theorem dX5_tell_15 : decode cX5_tell 15 = .ok (.iload_n 2, 1) := by decide +kernel
theorem dX5_tell_16 : decode cX5_tell 16 = .ok (.invokevirtual 77, 3) := by decide +kernel
theorem dX5_tell_19 : decode cX5_tell 19 = .ok (.ifCond .ne 10, 3) := by decide +kernel
theorem dX5_tell_22 : decode cX5_tell 22 = .ok (.aload_n 0, 1) := by decide +kernel
theorem dX5_tell_23 : decode cX5_tell 23 = .ok (.ldc 63, 2) := by decide +kernel
theorem dX5_tell_25 : decode cX5_tell 25 = .ok (.invokevirtual 64, 3) := by decide +kernel
theorem dX5_tell_28 : decode cX5_tell 28 = .ok (.ireturn, 1) := by decide +kernel
theorem dX5_tell_29 : decode cX5_tell 29 = .ok (.aload_n 0, 1) := by decide +kernel
theorem dX5_tell_30 : decode cX5_tell 30 = .ok (.getfield 12, 3) := by decide +kernel
theorem dX5_tell_33 : decode cX5_tell 33 = .ok (.getfield 123, 3) := by decide +kernel
theorem dX5_tell_36 : decode cX5_tell 36 = .ok (.iload_n 1, 1) := by decide +kernel
theorem dX5_tell_37 : decode cX5_tell 37 = .ok (.iaload, 1) := by decide +kernel
theorem dX5_tell_38 : decode cX5_tell 38 = .ok (.bipush 10, 2) := by decide +kernel
theorem dX5_tell_40 : decode cX5_tell 40 = .ok (.if_icmp .lt 12, 3) := by decide +kernel
theorem dX5_tell_43 : decode cX5_tell 43 = .ok (.aload_n 0, 1) := by decide +kernel
theorem dX5_tell_44 : decode cX5_tell 44 = .ok (.ldc 72, 2) := by decide +kernel
theorem dX5_tell_46 : decode cX5_tell 46 = .ok (.invokevirtual 64, 3) := by decide +kernel
theorem dX5_tell_49 : decode cX5_tell 49 = .ok (.goto 12, 3) := by decide +kernel
theorem dX5_tell_52 : decode cX5_tell 52 = .ok (.aload_n 0, 1) := by decide +kernel
theorem dX5_tell_53 : decode cX5_tell 53 = .ok (.getfield 12, 3) := by decide +kernel
theorem dX5_tell_56 : decode cX5_tell 56 = .ok (.iload_n 1, 1) := by decide +kernel
theorem dX5_tell_57 : decode cX5_tell 57 = .ok (.iload_n 2, 1) := by decide +kernel
theorem dX5_tell_58 : decode cX5_tell 58 = .ok (.invokevirtual 126, 3) := by decide +kernel
theorem dX5_tell_61 : decode cX5_tell 61 = .ok (.ireturn, 1) := by decide +kernel
set_option maxRecDepth 20000 in
theorem ggX5_cut_X3_hasTale : GoodIn wsX5_cut wsX3_hasTale := goodIn_r _ [9, 10, 38, 39, 40, 41, 42, 43, 44, 45, 46, 47, 48] (by decide +kernel) (by decide +kernel)
set_option maxRecDepth 20000 in
theorem gX5_cut_X3_hasTale : GoodIn wsX5_cut (wsV RX5 120 RX3 yX3_hasTale wsX3_hasTale) := goodIn_app (goodIn_of _ (by decide +kernel)) ggX5_cut_X3_hasTale
set_option maxRecDepth 20000 in
theorem ggX5_cut_X5_found : GoodIn wsX5_cut wsX5_found := goodIn_r _ [15, 2, 16, 17, 18, 14, 19, 30, 31, 32, 33, 34, 35, 36, 37] (by decide +kernel) (by decide +kernel)
set_option maxRecDepth 20000 in
theorem gX5_cut_X5_found : GoodIn wsX5_cut (wsV RX5 64 RX5 yX5_found wsX5_found) := goodIn_app (goodIn_of _ (by decide +kernel)) ggX5_cut_X5_found
set_option maxRecDepth 20000 in
theorem ggX5_cut_X3_dropTold : GoodIn wsX5_cut wsX3_dropTold := goodIn_r _ [23, 24, 25, 26, 27, 8, 28, 29, 38, 39, 40, 41, 42, 43, 44, 45, 46, 47, 48] (by decide +kernel) (by decide +kernel)
set_option maxRecDepth 20000 in
theorem gX5_cut_X3_dropTold : GoodIn wsX5_cut (wsV RX5 130 RX3 yX3_dropTold wsX3_dropTold) := goodIn_app (goodIn_of _ (by decide +kernel)) ggX5_cut_X3_dropTold
theorem dX5_cut_0 : decode cX5_cut 0 = .ok (.aload_n 0, 1) := by decide +kernel
theorem dX5_cut_1 : decode cX5_cut 1 = .ok (.getfield 12, 3) := by decide +kernel
theorem dX5_cut_4 : decode cX5_cut 4 = .ok (.iload_n 1, 1) := by decide +kernel
theorem dX5_cut_5 : decode cX5_cut 5 = .ok (.invokevirtual 120, 3) := by decide +kernel
theorem dX5_cut_8 : decode cX5_cut 8 = .ok (.ifCond .ne 10, 3) := by decide +kernel
theorem dX5_cut_11 : decode cX5_cut 11 = .ok (.aload_n 0, 1) := by decide +kernel
theorem dX5_cut_12 : decode cX5_cut 12 = .ok (.ldc 63, 2) := by decide +kernel
theorem dX5_cut_14 : decode cX5_cut 14 = .ok (.invokevirtual 64, 3) := by decide +kernel
theorem dX5_cut_17 : decode cX5_cut 17 = .ok (.ireturn, 1) := by decide +kernel
theorem dX5_cut_18 : decode cX5_cut 18 = .ok (.aload_n 0, 1) := by decide +kernel
theorem dX5_cut_19 : decode cX5_cut 19 = .ok (.getfield 12, 3) := by decide +kernel
theorem dX5_cut_22 : decode cX5_cut 22 = .ok (.getfield 123, 3) := by decide +kernel
theorem dX5_cut_25 : decode cX5_cut 25 = .ok (.iload_n 1, 1) := by decide +kernel
theorem dX5_cut_26 : decode cX5_cut 26 = .ok (.iaload, 1) := by decide +kernel
theorem dX5_cut_27 : decode cX5_cut 27 = .ok (.ifCond .ne 12, 3) := by decide +kernel
theorem dX5_cut_30 : decode cX5_cut 30 = .ok (.aload_n 0, 1) := by decide +kernel
theorem dX5_cut_31 : decode cX5_cut 31 = .ok (.ldc 129, 2) := by decide +kernel
theorem dX5_cut_33 : decode cX5_cut 33 = .ok (.invokevirtual 64, 3) := by decide +kernel
theorem dX5_cut_36 : decode cX5_cut 36 = .ok (.goto 11, 3) := by decide +kernel
theorem dX5_cut_39 : decode cX5_cut 39 = .ok (.aload_n 0, 1) := by decide +kernel
theorem dX5_cut_40 : decode cX5_cut 40 = .ok (.getfield 12, 3) := by decide +kernel
theorem dX5_cut_43 : decode cX5_cut 43 = .ok (.iload_n 1, 1) := by decide +kernel
theorem dX5_cut_44 : decode cX5_cut 44 = .ok (.invokevirtual 130, 3) := by decide +kernel
theorem dX5_cut_47 : decode cX5_cut 47 = .ok (.ireturn, 1) := by decide +kernel
set_option maxRecDepth 20000 in
theorem ggX5_ith_X3_hasTale : GoodIn wsX5_ith wsX3_hasTale := goodIn_r _ [8, 9, 32, 33, 34, 35, 36, 37, 38, 39, 40, 41, 42] (by decide +kernel) (by decide +kernel)
set_option maxRecDepth 20000 in
theorem gX5_ith_X3_hasTale : GoodIn wsX5_ith (wsV RX5 120 RX3 yX3_hasTale wsX3_hasTale) := goodIn_app (goodIn_of _ (by decide +kernel)) ggX5_ith_X3_hasTale
set_option maxRecDepth 20000 in
theorem ggX5_ith_X5_isIn : GoodIn wsX5_ith wsX5_isIn := goodIn_r _ [13] (by decide +kernel) (by decide +kernel)
set_option maxRecDepth 20000 in
theorem gX5_ith_X5_isIn : GoodIn wsX5_ith (va_wsS RX5 59 yX5_isIn wsX5_isIn) := goodIn_app (goodIn_of _ (by decide +kernel)) ggX5_ith_X5_isIn
set_option maxRecDepth 20000 in
theorem ggX5_ith_X5_found : GoodIn wsX5_ith wsX5_found := goodIn_r _ [17, 3, 18, 10, 11, 12, 13, 24, 25, 26, 27, 28, 29, 30, 31] (by decide +kernel) (by decide +kernel)
set_option maxRecDepth 20000 in
theorem gX5_ith_X5_found : GoodIn wsX5_ith (wsV RX5 64 RX5 yX5_found wsX5_found) := goodIn_app (goodIn_of _ (by decide +kernel)) ggX5_ith_X5_found
set_option maxRecDepth 20000 in
theorem ggX5_ith_X3_toldAt : GoodIn wsX5_ith wsX3_toldAt := goodIn_r _ [22, 23, 32, 33, 34, 35, 36, 37, 38, 39, 40, 41, 42] (by decide +kernel) (by decide +kernel)
set_option maxRecDepth 20000 in
theorem gX5_ith_X3_toldAt : GoodIn wsX5_ith (wsV RX5 133 RX3 yX3_toldAt wsX3_toldAt) := goodIn_app (goodIn_of _ (by decide +kernel)) ggX5_ith_X3_toldAt
theorem dX5_ith_0 : decode cX5_ith 0 = .ok (.aload_n 0, 1) := by decide +kernel
theorem dX5_ith_1 : decode cX5_ith 1 = .ok (.getfield 12, 3) := by decide +kernel
theorem dX5_ith_4 : decode cX5_ith 4 = .ok (.iload_n 1, 1) := by decide +kernel
theorem dX5_ith_5 : decode cX5_ith 5 = .ok (.invokevirtual 120, 3) := by decide +kernel
theorem dX5_ith_8 : decode cX5_ith 8 = .ok (.ifCond .eq 22, 3) := by decide +kernel
theorem dX5_ith_11 : decode cX5_ith 11 = .ok (.iload_n 2, 1) := by decide +kernel
theorem dX5_ith_12 : decode cX5_ith 12 = .ok (.iconst 0, 1) := by decide +kernel
theorem dX5_ith_13 : decode cX5_ith 13 = .ok (.aload_n 0, 1) := by decide +kernel
theorem dX5_ith_14 : decode cX5_ith 14 = .ok (.getfield 12, 3) := by decide +kernel
theorem dX5_ith_17 : decode cX5_ith 17 = .ok (.getfield 123, 3) := by decide +kernel
theorem dX5_ith_20 : decode cX5_ith 20 = .ok (.iload_n 1, 1) := by decide +kernel
theorem dX5_ith_21 : decode cX5_ith 21 = .ok (.iaload, 1) := by decide +kernel
theorem dX5_ith_22 : decode cX5_ith 22 = .ok (.iconst 1, 1) := by decide +kernel
theorem dX5_ith_23 : decode cX5_ith 23 = .ok (.isub, 1) := by decide +kernel
theorem dX5_ith_24 : decode cX5_ith 24 = .ok (.invokestatic 59, 3) := by decide +kernel
theorem dX5_ith_27 : decode cX5_ith 27 = .ok (.ifCond .ne 10, 3) := by decide +kernel
theorem dX5_ith_30 : decode cX5_ith 30 = .ok (.aload_n 0, 1) := by decide +kernel
theorem dX5_ith_31 : decode cX5_ith 31 = .ok (.ldc 63, 2) := by decide +kernel
theorem dX5_ith_33 : decode cX5_ith 33 = .ok (.invokevirtual 64, 3) := by decide +kernel
theorem dX5_ith_36 : decode cX5_ith 36 = .ok (.ireturn, 1) := by decide +kernel
theorem dX5_ith_37 : decode cX5_ith 37 = .ok (.aload_n 0, 1) := by decide +kernel
theorem dX5_ith_38 : decode cX5_ith 38 = .ok (.getfield 12, 3) := by decide +kernel
theorem dX5_ith_41 : decode cX5_ith 41 = .ok (.iload_n 1, 1) := by decide +kernel
theorem dX5_ith_42 : decode cX5_ith 42 = .ok (.iload_n 2, 1) := by decide +kernel
theorem dX5_ith_43 : decode cX5_ith 43 = .ok (.invokevirtual 133, 3) := by decide +kernel
theorem dX5_ith_46 : decode cX5_ith 46 = .ok (.ireturn, 1) := by decide +kernel
set_option maxRecDepth 20000 in
theorem ggX5_size_X3_hasTale : GoodIn wsX5_size wsX3_hasTale := goodIn_r _ [8, 9, 27, 28, 29, 30, 31, 32, 33, 34, 35, 36, 37] (by decide +kernel) (by decide +kernel)
set_option maxRecDepth 20000 in
theorem gX5_size_X3_hasTale : GoodIn wsX5_size (wsV RX5 120 RX3 yX3_hasTale wsX3_hasTale) := goodIn_app (goodIn_of _ (by decide +kernel)) ggX5_size_X3_hasTale
set_option maxRecDepth 20000 in
theorem ggX5_size_X5_found : GoodIn wsX5_size wsX5_found := goodIn_r _ [14, 3, 15, 16, 17, 13, 18, 19, 20, 21, 22, 23, 24, 25, 26] (by decide +kernel) (by decide +kernel)
set_option maxRecDepth 20000 in
theorem gX5_size_X5_found : GoodIn wsX5_size (wsV RX5 64 RX5 yX5_found wsX5_found) := goodIn_app (goodIn_of _ (by decide +kernel)) ggX5_size_X5_found
theorem dX5_size_0 : decode cX5_size 0 = .ok (.aload_n 0, 1) := by decide +kernel
theorem dX5_size_1 : decode cX5_size 1 = .ok (.getfield 12, 3) := by decide +kernel
theorem dX5_size_4 : decode cX5_size 4 = .ok (.iload_n 1, 1) := by decide +kernel
theorem dX5_size_5 : decode cX5_size 5 = .ok (.invokevirtual 120, 3) := by decide +kernel
theorem dX5_size_8 : decode cX5_size 8 = .ok (.ifCond .eq 15, 3) := by decide +kernel
theorem dX5_size_11 : decode cX5_size 11 = .ok (.aload_n 0, 1) := by decide +kernel
theorem dX5_size_12 : decode cX5_size 12 = .ok (.getfield 12, 3) := by decide +kernel
theorem dX5_size_15 : decode cX5_size 15 = .ok (.getfield 123, 3) := by decide +kernel
theorem dX5_size_18 : decode cX5_size 18 = .ok (.iload_n 1, 1) := by decide +kernel
theorem dX5_size_19 : decode cX5_size 19 = .ok (.iaload, 1) := by decide +kernel
theorem dX5_size_20 : decode cX5_size 20 = .ok (.goto 9, 3) := by decide +kernel
theorem dX5_size_23 : decode cX5_size 23 = .ok (.aload_n 0, 1) := by decide +kernel
theorem dX5_size_24 : decode cX5_size 24 = .ok (.ldc 63, 2) := by decide +kernel
theorem dX5_size_26 : decode cX5_size 26 = .ok (.invokevirtual 64, 3) := by decide +kernel
theorem dX5_size_29 : decode cX5_size 29 = .ok (.ireturn, 1) := by decide +kernel
set_option maxRecDepth 20000 in
theorem ggX5_ways_X3_hasTale : GoodIn wsX5_ways wsX3_hasTale := goodIn_r _ [8, 9, 55, 56, 57, 58, 59, 60, 61, 62, 63, 64, 65] (by decide +kernel) (by decide +kernel)
set_option maxRecDepth 20000 in
theorem gX5_ways_X3_hasTale : GoodIn wsX5_ways (wsV RX5 120 RX3 yX3_hasTale wsX3_hasTale) := goodIn_app (goodIn_of _ (by decide +kernel)) ggX5_ways_X3_hasTale
set_option maxRecDepth 20000 in
theorem ggX5_ways_X5_isIn : GoodIn wsX5_ways wsX5_isIn := goodIn_r _ [13] (by decide +kernel) (by decide +kernel)
set_option maxRecDepth 20000 in
theorem gX5_ways_X5_isIn : GoodIn wsX5_ways (va_wsS RX5 59 yX5_isIn wsX5_isIn) := goodIn_app (goodIn_of _ (by decide +kernel)) ggX5_ways_X5_isIn
set_option maxRecDepth 20000 in
theorem ggX5_ways_X5_found : GoodIn wsX5_ways wsX5_found := goodIn_r _ [17, 2, 18, 10, 11, 12, 13, 47, 48, 49, 50, 51, 52, 53, 54] (by decide +kernel) (by decide +kernel)
set_option maxRecDepth 20000 in
theorem gX5_ways_X5_found : GoodIn wsX5_ways (wsV RX5 64 RX5 yX5_found wsX5_found) := goodIn_app (goodIn_of _ (by decide +kernel)) ggX5_ways_X5_found
set_option maxRecDepth 20000 in
theorem ggX5_ways_X1_waysIn : GoodIn wsX5_ways wsX1_waysIn := goodIn_r _ [23, 24, 25, 26, 27, 28, 29, 7, 30, 31, 32, 33, 34, 35, 36, 37, 38, 39, 40, 41, 42, 43, 44, 45, 22, 46, 66, 67, 68, 69, 70, 71, 72, 55, 56, 57, 58, 59, 60, 61, 62, 63, 64, 65] (by decide +kernel) (by decide +kernel)
set_option maxRecDepth 20000 in
theorem gX5_ways_X1_waysIn : GoodIn wsX5_ways (wsV RX5 136 RX1 yX1_waysIn wsX1_waysIn) := goodIn_app (goodIn_of _ (by decide +kernel)) ggX5_ways_X1_waysIn
theorem dX5_ways_0 : decode cX5_ways 0 = .ok (.aload_n 0, 1) := by decide +kernel
theorem dX5_ways_1 : decode cX5_ways 1 = .ok (.getfield 12, 3) := by decide +kernel
theorem dX5_ways_4 : decode cX5_ways 4 = .ok (.iload_n 1, 1) := by decide +kernel
theorem dX5_ways_5 : decode cX5_ways 5 = .ok (.invokevirtual 120, 3) := by decide +kernel
theorem dX5_ways_8 : decode cX5_ways 8 = .ok (.ifCond .eq 13, 3) := by decide +kernel
theorem dX5_ways_11 : decode cX5_ways 11 = .ok (.iload_n 2, 1) := by decide +kernel
theorem dX5_ways_12 : decode cX5_ways 12 = .ok (.iconst 0, 1) := by decide +kernel
theorem dX5_ways_13 : decode cX5_ways 13 = .ok (.bipush 120, 2) := by decide +kernel
theorem dX5_ways_15 : decode cX5_ways 15 = .ok (.invokestatic 59, 3) := by decide +kernel
theorem dX5_ways_18 : decode cX5_ways 18 = .ok (.ifCond .ne 11, 3) := by decide +kernel
theorem dX5_ways_21 : decode cX5_ways 21 = .ok (.aload_n 0, 1) := by decide +kernel
theorem dX5_ways_22 : decode cX5_ways 22 = .ok (.ldc 63, 2) := by decide +kernel
theorem dX5_ways_24 : decode cX5_ways 24 = .ok (.invokevirtual 64, 3) := by decide +kernel
theorem dX5_ways_27 : decode cX5_ways 27 = .ok (.i2l, 1) := by decide +kernel
theorem dX5_ways_28 : decode cX5_ways 28 = .ok (.lreturn, 1) := by decide +kernel
theorem dX5_ways_29 : decode cX5_ways 29 = .ok (.aload_n 0, 1) := by decide +kernel
theorem dX5_ways_30 : decode cX5_ways 30 = .ok (.getfield 28, 3) := by decide +kernel
theorem dX5_ways_33 : decode cX5_ways 33 = .ok (.iload_n 1, 1) := by decide +kernel
theorem dX5_ways_34 : decode cX5_ways 34 = .ok (.iload_n 2, 1) := by decide +kernel
theorem dX5_ways_35 : decode cX5_ways 35 = .ok (.invokevirtual 136, 3) := by decide +kernel
theorem dX5_ways_38 : decode cX5_ways 38 = .ok (.lreturn, 1) := by decide +kernel
set_option maxRecDepth 20000 in
theorem ggX5_allWays_X3_hasTale : GoodIn wsX5_allWays wsX3_hasTale := goodIn_r _ [8, 9, 57, 58, 59, 60, 61, 62, 63, 64, 65, 66, 67] (by decide +kernel) (by decide +kernel)
set_option maxRecDepth 20000 in
theorem gX5_allWays_X3_hasTale : GoodIn wsX5_allWays (wsV RX5 120 RX3 yX3_hasTale wsX3_hasTale) := goodIn_app (goodIn_of _ (by decide +kernel)) ggX5_allWays_X3_hasTale
set_option maxRecDepth 20000 in
theorem ggX5_allWays_X1_waysInAll : GoodIn wsX5_allWays wsX1_waysInAll := goodIn_r _ [14, 15, 16, 17, 18, 19, 7, 20, 21, 22, 23, 24, 25, 26, 27, 28, 29, 30, 31, 32, 33, 34, 35, 36, 37, 38, 39, 68, 69, 70, 71, 72, 73, 74, 57, 58, 59, 60, 61, 62, 63, 64, 65, 66, 67] (by decide +kernel) (by decide +kernel)
set_option maxRecDepth 20000 in
theorem gX5_allWays_X1_waysInAll : GoodIn wsX5_allWays (wsV RX5 140 RX1 yX1_waysInAll wsX1_waysInAll) := goodIn_app (goodIn_of _ (by decide +kernel)) ggX5_allWays_X1_waysInAll
set_option maxRecDepth 20000 in
theorem ggX5_allWays_X5_found : GoodIn wsX5_allWays wsX5_found := goodIn_r _ [44, 3, 45, 46, 47, 43, 48, 49, 50, 51, 52, 53, 54, 55, 56] (by decide +kernel) (by decide +kernel)
set_option maxRecDepth 20000 in
theorem gX5_allWays_X5_found : GoodIn wsX5_allWays (wsV RX5 64 RX5 yX5_found wsX5_found) := goodIn_app (goodIn_of _ (by decide +kernel)) ggX5_allWays_X5_found
theorem dX5_allWays_0 : decode cX5_allWays 0 = .ok (.aload_n 0, 1) := by decide +kernel
theorem dX5_allWays_1 : decode cX5_allWays 1 = .ok (.getfield 12, 3) := by decide +kernel
theorem dX5_allWays_4 : decode cX5_allWays 4 = .ok (.iload_n 1, 1) := by decide +kernel
theorem dX5_allWays_5 : decode cX5_allWays 5 = .ok (.invokevirtual 120, 3) := by decide +kernel
theorem dX5_allWays_8 : decode cX5_allWays 8 = .ok (.ifCond .eq 14, 3) := by decide +kernel
theorem dX5_allWays_11 : decode cX5_allWays 11 = .ok (.aload_n 0, 1) := by decide +kernel
theorem dX5_allWays_12 : decode cX5_allWays 12 = .ok (.getfield 28, 3) := by decide +kernel
theorem dX5_allWays_15 : decode cX5_allWays 15 = .ok (.iload_n 1, 1) := by decide +kernel
theorem dX5_allWays_16 : decode cX5_allWays 16 = .ok (.invokevirtual 140, 3) := by decide +kernel
theorem dX5_allWays_19 : decode cX5_allWays 19 = .ok (.goto 10, 3) := by decide +kernel
theorem dX5_allWays_22 : decode cX5_allWays 22 = .ok (.aload_n 0, 1) := by decide +kernel
theorem dX5_allWays_23 : decode cX5_allWays 23 = .ok (.ldc 63, 2) := by decide +kernel
theorem dX5_allWays_25 : decode cX5_allWays 25 = .ok (.invokevirtual 64, 3) := by decide +kernel
theorem dX5_allWays_28 : decode cX5_allWays 28 = .ok (.i2l, 1) := by decide +kernel
theorem dX5_allWays_29 : decode cX5_allWays 29 = .ok (.lreturn, 1) := by decide +kernel
set_option maxRecDepth 20000 in
theorem ggX5_length_X3_hasTale : GoodIn wsX5_length wsX3_hasTale := goodIn_r _ [9, 10, 78, 79, 80, 81, 82, 83, 84, 85, 86, 87, 88] (by decide +kernel) (by decide +kernel)
set_option maxRecDepth 20000 in
theorem gX5_length_X3_hasTale : GoodIn wsX5_length (wsV RX5 120 RX3 yX3_hasTale wsX3_hasTale) := goodIn_app (goodIn_of _ (by decide +kernel)) ggX5_length_X3_hasTale
set_option maxRecDepth 20000 in
theorem ggX5_length_X5_isIn : GoodIn wsX5_length wsX5_isIn := goodIn_r _ [14] (by decide +kernel) (by decide +kernel)
set_option maxRecDepth 20000 in
theorem gX5_length_X5_isIn : GoodIn wsX5_length (va_wsS RX5 59 yX5_isIn wsX5_isIn) := goodIn_app (goodIn_of _ (by decide +kernel)) ggX5_length_X5_isIn
set_option maxRecDepth 20000 in
theorem ggX5_length_X5_found : GoodIn wsX5_length wsX5_found := goodIn_r _ [18, 2, 19, 11, 12, 13, 14, 70, 71, 72, 73, 74, 75, 76, 77] (by decide +kernel) (by decide +kernel)
set_option maxRecDepth 20000 in
theorem gX5_length_X5_found : GoodIn wsX5_length (wsV RX5 64 RX5 yX5_found wsX5_found) := goodIn_app (goodIn_of _ (by decide +kernel)) ggX5_length_X5_found
set_option maxRecDepth 20000 in
theorem ggX5_length_X1_spanWords : GoodIn wsX5_length wsX1_spanWords := goodIn_r _ [24, 25, 26, 27, 28, 29, 30, 31, 32, 8, 33, 34, 35, 36, 37, 38, 39, 40, 41, 42, 43, 44, 45, 46, 47, 48, 23, 49, 89, 90, 91, 92, 93, 94, 95, 78, 79, 80, 81, 82, 83, 84, 85, 86, 87, 88] (by decide +kernel) (by decide +kernel)
set_option maxRecDepth 20000 in
theorem gX5_length_X1_spanWords : GoodIn wsX5_length (wsV RX5 144 RX1 yX1_spanWords wsX1_spanWords) := goodIn_app (goodIn_of _ (by decide +kernel)) ggX5_length_X1_spanWords
set_option maxRecDepth 20000 in
theorem ggX5_length_X1_fewestWords : GoodIn wsX5_length wsX1_fewestWords := goodIn_r _ [53, 54, 55, 56, 23, 57, 27, 58, 59, 60, 61, 28, 29, 89, 90, 91, 92, 93, 94, 95] (by decide +kernel) (by decide +kernel)
set_option maxRecDepth 20000 in
theorem gX5_length_X1_fewestWords : GoodIn wsX5_length (wsV RX5 148 RX1 yX1_fewestWords wsX1_fewestWords) := goodIn_app (goodIn_of _ (by decide +kernel)) ggX5_length_X1_fewestWords
set_option maxRecDepth 20000 in
theorem ggX5_length_X1_mostWords : GoodIn wsX5_length wsX1_mostWords := goodIn_r _ [65, 54, 55, 56, 23, 57, 27, 58, 59, 60, 61, 28, 29, 89, 90, 91, 92, 93, 94, 95] (by decide +kernel) (by decide +kernel)
set_option maxRecDepth 20000 in
theorem gX5_length_X1_mostWords : GoodIn wsX5_length (wsV RX5 151 RX1 yX1_mostWords wsX1_mostWords) := goodIn_app (goodIn_of _ (by decide +kernel)) ggX5_length_X1_mostWords
set_option maxRecDepth 20000 in
theorem ggX5_length_X1_gapsBetween : GoodIn wsX5_length wsX1_gapsBetween := goodIn_r _ [69, 54, 55, 56, 23, 57, 27, 58, 59, 60, 61, 28, 29, 89, 90, 91, 92, 93, 94, 95] (by decide +kernel) (by decide +kernel)
set_option maxRecDepth 20000 in
theorem gX5_length_X1_gapsBetween : GoodIn wsX5_length (wsV RX5 154 RX1 yX1_gapsBetween wsX1_gapsBetween) := goodIn_app (goodIn_of _ (by decide +kernel)) ggX5_length_X1_gapsBetween
theorem dX5_length_0 : decode cX5_length 0 = .ok (.aload_n 0, 1) := by decide +kernel
theorem dX5_length_1 : decode cX5_length 1 = .ok (.getfield 12, 3) := by decide +kernel
theorem dX5_length_4 : decode cX5_length 4 = .ok (.iload_n 1, 1) := by decide +kernel
theorem dX5_length_5 : decode cX5_length 5 = .ok (.invokevirtual 120, 3) := by decide +kernel
theorem dX5_length_8 : decode cX5_length 8 = .ok (.ifCond .eq 12, 3) := by decide +kernel
theorem dX5_length_11 : decode cX5_length 11 = .ok (.iload_n 2, 1) := by decide +kernel
theorem dX5_length_12 : decode cX5_length 12 = .ok (.iconst 0, 1) := by decide +kernel
theorem dX5_length_13 : decode cX5_length 13 = .ok (.iconst 2, 1) := by decide +kernel
theorem dX5_length_14 : decode cX5_length 14 = .ok (.invokestatic 59, 3) := by decide +kernel
theorem dX5_length_17 : decode cX5_length 17 = .ok (.ifCond .ne 10, 3) := by decide +kernel
theorem dX5_length_20 : decode cX5_length 20 = .ok (.aload_n 0, 1) := by decide +kernel
theorem dX5_length_21 : decode cX5_length 21 = .ok (.ldc 63, 2) := by decide +kernel
theorem dX5_length_23 : decode cX5_length 23 = .ok (.invokevirtual 64, 3) := by decide +kernel
theorem dX5_length_26 : decode cX5_length 26 = .ok (.ireturn, 1) := by decide +kernel
theorem dX5_length_27 : decode cX5_length 27 = .ok (.aload_n 0, 1) := by decide +kernel
theorem dX5_length_28 : decode cX5_length 28 = .ok (.getfield 28, 3) := by decide +kernel
theorem dX5_length_31 : decode cX5_length 31 = .ok (.iload_n 1, 1) := by decide +kernel
theorem dX5_length_32 : decode cX5_length 32 = .ok (.invokevirtual 144, 3) := by decide +kernel
theorem dX5_length_35 : decode cX5_length 35 = .ok (.aload_n 0, 1) := by decide +kernel
theorem dX5_length_36 : decode cX5_length 36 = .ok (.getfield 28, 3) := by decide +kernel
theorem dX5_length_39 : decode cX5_length 39 = .ok (.invokevirtual 148, 3) := by decide +kernel
theorem dX5_length_42 : decode cX5_length 42 = .ok (.istore_n 3, 1) := by decide +kernel
theorem dX5_length_43 : decode cX5_length 43 = .ok (.aload_n 0, 1) := by decide +kernel
theorem dX5_length_44 : decode cX5_length 44 = .ok (.getfield 28, 3) := by decide +kernel
theorem dX5_length_47 : decode cX5_length 47 = .ok (.invokevirtual 151, 3) := by decide +kernel
theorem dX5_length_50 : decode cX5_length 50 = .ok (.istore 4, 2) := by decide +kernel
theorem dX5_length_52 : decode cX5_length 52 = .ok (.iload_n 3, 1) := by decide +kernel
theorem dX5_length_53 : decode cX5_length 53 = .ok (.iload 4, 2) := by decide +kernel
theorem dX5_length_55 : decode cX5_length 55 = .ok (.if_icmp .le 10, 3) := by decide +kernel
theorem dX5_length_58 : decode cX5_length 58 = .ok (.aload_n 0, 1) := by decide +kernel
theorem dX5_length_59 : decode cX5_length 59 = .ok (.ldc 129, 2) := by decide +kernel
theorem dX5_length_61 : decode cX5_length 61 = .ok (.invokevirtual 64, 3) := by decide +kernel
theorem dX5_length_64 : decode cX5_length 64 = .ok (.ireturn, 1) := by decide +kernel
theorem dX5_length_65 : decode cX5_length 65 = .ok (.iload_n 2, 1) := by decide +kernel
theorem dX5_length_66 : decode cX5_length 66 = .ok (.ifCond .ne 5, 3) := by decide +kernel
theorem dX5_length_69 : decode cX5_length 69 = .ok (.iload_n 3, 1) := by decide +kernel
theorem dX5_length_70 : decode cX5_length 70 = .ok (.ireturn, 1) := by decide +kernel
theorem dX5_length_71 : decode cX5_length 71 = .ok (.iload_n 2, 1) := by decide +kernel
theorem dX5_length_72 : decode cX5_length 72 = .ok (.iconst 1, 1) := by decide +kernel
theorem dX5_length_73 : decode cX5_length 73 = .ok (.if_icmp .ne 8, 3) := by decide +kernel
theorem dX5_length_76 : decode cX5_length 76 = .ok (.iload 4, 2) := by decide +kernel
theorem dX5_length_78 : decode cX5_length 78 = .ok (.goto 13, 3) := by decide +kernel
theorem dX5_length_81 : decode cX5_length 81 = .ok (.aload_n 0, 1) := by decide +kernel
theorem dX5_length_82 : decode cX5_length 82 = .ok (.getfield 28, 3) := by decide +kernel
theorem dX5_length_85 : decode cX5_length 85 = .ok (.iload_n 3, 1) := by decide +kernel
theorem dX5_length_86 : decode cX5_length 86 = .ok (.iload 4, 2) := by decide +kernel
theorem dX5_length_88 : decode cX5_length 88 = .ok (.invokevirtual 154, 3) := by decide +kernel
theorem dX5_length_91 : decode cX5_length 91 = .ok (.ireturn, 1) := by decide +kernel
set_option maxRecDepth 20000 in
theorem ggX5_best_X3_hasTale : GoodIn wsX5_best wsX3_hasTale := goodIn_r _ [12, 13, 74, 75, 76, 77, 78, 79, 80, 81, 82, 83, 84] (by decide +kernel) (by decide +kernel)
set_option maxRecDepth 20000 in
theorem gX5_best_X3_hasTale : GoodIn wsX5_best (wsV RX5 120 RX3 yX3_hasTale wsX3_hasTale) := goodIn_app (goodIn_of _ (by decide +kernel)) ggX5_best_X3_hasTale
set_option maxRecDepth 20000 in
theorem ggX5_best_X5_isIn : GoodIn wsX5_best wsX5_isIn := goodIn_r _ [17] (by decide +kernel) (by decide +kernel)
set_option maxRecDepth 20000 in
theorem gX5_best_X5_isIn : GoodIn wsX5_best (va_wsS RX5 59 yX5_isIn wsX5_isIn) := goodIn_app (goodIn_of _ (by decide +kernel)) ggX5_best_X5_isIn
set_option maxRecDepth 20000 in
theorem ggX5_best_X5_found : GoodIn wsX5_best wsX5_found := goodIn_r _ [21, 2, 22, 14, 15, 16, 17, 66, 67, 68, 69, 70, 71, 72, 73] (by decide +kernel) (by decide +kernel)
set_option maxRecDepth 20000 in
theorem gX5_best_X5_found : GoodIn wsX5_best (wsV RX5 64 RX5 yX5_found wsX5_found) := goodIn_app (goodIn_of _ (by decide +kernel)) ggX5_best_X5_found
set_option maxRecDepth 20000 in
theorem ggX5_best_X1_findBest : GoodIn wsX5_best wsX1_findBest := goodIn_r _ [27, 28, 29, 30, 31, 32, 33, 34, 35, 26, 36, 37, 38, 39, 11, 40, 41, 42, 43, 44, 45, 46, 47, 48, 49, 50, 51, 52, 53, 54, 55, 56, 57, 58, 59, 60, 61, 62, 63, 64, 65, 85, 86, 87, 88, 89, 90, 91, 74, 75, 76, 77, 78, 79, 80, 81, 82, 83, 84] (by decide +kernel) (by decide +kernel)
set_option maxRecDepth 20000 in
theorem gX5_best_X1_findBest : GoodIn wsX5_best (wsV RX5 157 RX1 yX1_findBest wsX1_findBest) := goodIn_app (goodIn_of _ (by decide +kernel)) ggX5_best_X1_findBest
theorem dX5_best_0 : decode cX5_best 0 = .ok (.aload_n 0, 1) := by decide +kernel
theorem dX5_best_1 : decode cX5_best 1 = .ok (.getfield 12, 3) := by decide +kernel
theorem dX5_best_4 : decode cX5_best 4 = .ok (.iload_n 1, 1) := by decide +kernel
theorem dX5_best_5 : decode cX5_best 5 = .ok (.invokevirtual 120, 3) := by decide +kernel
theorem dX5_best_8 : decode cX5_best 8 = .ok (.ifCond .eq 23, 3) := by decide +kernel
theorem dX5_best_11 : decode cX5_best 11 = .ok (.iload_n 2, 1) := by decide +kernel
theorem dX5_best_12 : decode cX5_best 12 = .ok (.iconst 0, 1) := by decide +kernel
theorem dX5_best_13 : decode cX5_best 13 = .ok (.bipush 120, 2) := by decide +kernel
theorem dX5_best_15 : decode cX5_best 15 = .ok (.invokestatic 59, 3) := by decide +kernel
theorem dX5_best_18 : decode cX5_best 18 = .ok (.ifCond .eq 13, 3) := by decide +kernel
theorem dX5_best_21 : decode cX5_best 21 = .ok (.iload_n 3, 1) := by decide +kernel
theorem dX5_best_22 : decode cX5_best 22 = .ok (.iconst (-1), 1) := by decide +kernel
theorem dX5_best_23 : decode cX5_best 23 = .ok (.bipush 9, 2) := by decide +kernel
theorem dX5_best_25 : decode cX5_best 25 = .ok (.invokestatic 59, 3) := by decide +kernel
theorem dX5_best_28 : decode cX5_best 28 = .ok (.ifCond .ne 10, 3) := by decide +kernel
theorem dX5_best_31 : decode cX5_best 31 = .ok (.aload_n 0, 1) := by decide +kernel
theorem dX5_best_32 : decode cX5_best 32 = .ok (.ldc 63, 2) := by decide +kernel
theorem dX5_best_34 : decode cX5_best 34 = .ok (.invokevirtual 64, 3) := by decide +kernel
theorem dX5_best_37 : decode cX5_best 37 = .ok (.ireturn, 1) := by decide +kernel
theorem dX5_best_38 : decode cX5_best 38 = .ok (.aload_n 0, 1) := by decide +kernel
theorem dX5_best_39 : decode cX5_best 39 = .ok (.getfield 28, 3) := by decide +kernel
theorem dX5_best_42 : decode cX5_best 42 = .ok (.iload_n 1, 1) := by decide +kernel
theorem dX5_best_43 : decode cX5_best 43 = .ok (.iload_n 2, 1) := by decide +kernel
theorem dX5_best_44 : decode cX5_best 44 = .ok (.invokevirtual 157, 3) := by decide +kernel
theorem dX5_best_47 : decode cX5_best 47 = .ok (.istore 4, 2) := by decide +kernel
theorem dX5_best_49 : decode cX5_best 49 = .ok (.iload 4, 2) := by decide +kernel
theorem dX5_best_51 : decode cX5_best 51 = .ok (.ldc 160, 2) := by decide +kernel
theorem dX5_best_53 : decode cX5_best 53 = .ok (.if_icmp .eq 16, 3) := by decide +kernel
theorem dX5_best_56 : decode cX5_best 56 = .ok (.iload_n 3, 1) := by decide +kernel
theorem dX5_best_57 : decode cX5_best 57 = .ok (.aload_n 0, 1) := by decide +kernel
theorem dX5_best_58 : decode cX5_best 58 = .ok (.getfield 12, 3) := by decide +kernel
theorem dX5_best_61 : decode cX5_best 61 = .ok (.getfield 123, 3) := by decide +kernel
theorem dX5_best_64 : decode cX5_best 64 = .ok (.iload_n 1, 1) := by decide +kernel
theorem dX5_best_65 : decode cX5_best 65 = .ok (.iaload, 1) := by decide +kernel
theorem dX5_best_66 : decode cX5_best 66 = .ok (.if_icmp .lt 10, 3) := by decide +kernel
theorem dX5_best_69 : decode cX5_best 69 = .ok (.aload_n 0, 1) := by decide +kernel
theorem dX5_best_70 : decode cX5_best 70 = .ok (.ldc 129, 2) := by decide +kernel
theorem dX5_best_72 : decode cX5_best 72 = .ok (.invokevirtual 64, 3) := by decide +kernel
theorem dX5_best_75 : decode cX5_best 75 = .ok (.ireturn, 1) := by decide +kernel
theorem dX5_best_76 : decode cX5_best 76 = .ok (.iload_n 3, 1) := by decide +kernel
theorem dX5_best_77 : decode cX5_best 77 = .ok (.ifCond .ge 8, 3) := by decide +kernel
theorem dX5_best_80 : decode cX5_best 80 = .ok (.iload 4, 2) := by decide +kernel
theorem dX5_best_82 : decode cX5_best 82 = .ok (.goto 12, 3) := by decide +kernel
theorem dX5_best_85 : decode cX5_best 85 = .ok (.aload_n 0, 1) := by decide +kernel
theorem dX5_best_86 : decode cX5_best 86 = .ok (.getfield 28, 3) := by decide +kernel
theorem dX5_best_89 : decode cX5_best 89 = .ok (.getfield 161, 3) := by decide +kernel
theorem dX5_best_92 : decode cX5_best 92 = .ok (.iload_n 3, 1) := by decide +kernel
theorem dX5_best_93 : decode cX5_best 93 = .ok (.iaload, 1) := by decide +kernel
theorem dX5_best_94 : decode cX5_best 94 = .ok (.ireturn, 1) := by decide +kernel
set_option maxRecDepth 20000 in
theorem ggX5_richest_X3_hasTale : GoodIn wsX5_richest wsX3_hasTale := goodIn_r _ [9, 10, 66, 67, 68, 69, 70, 71, 72, 73, 74, 75, 76] (by decide +kernel) (by decide +kernel)
set_option maxRecDepth 20000 in
theorem gX5_richest_X3_hasTale : GoodIn wsX5_richest (wsV RX5 120 RX3 yX3_hasTale wsX3_hasTale) := goodIn_app (goodIn_of _ (by decide +kernel)) ggX5_richest_X3_hasTale
set_option maxRecDepth 20000 in
theorem ggX5_richest_X5_found : GoodIn wsX5_richest wsX5_found := goodIn_r _ [15, 2, 16, 17, 18, 14, 19, 58, 59, 60, 61, 62, 63, 64, 65] (by decide +kernel) (by decide +kernel)
set_option maxRecDepth 20000 in
theorem gX5_richest_X5_found : GoodIn wsX5_richest (wsV RX5 64 RX5 yX5_found wsX5_found) := goodIn_app (goodIn_of _ (by decide +kernel)) ggX5_richest_X5_found
set_option maxRecDepth 20000 in
theorem ggX5_richest_X1_richestWords : GoodIn wsX5_richest wsX1_richestWords := goodIn_r _ [24, 25, 26, 27, 28, 29, 23, 30, 31, 32, 33, 34, 35, 8, 36, 37, 38, 39, 40, 41, 42, 43, 44, 45, 46, 47, 48, 49, 50, 51, 52, 53, 54, 55, 56, 57, 77, 78, 79, 80, 81, 82, 83, 66, 67, 68, 69, 70, 71, 72, 73, 74, 75, 76] (by decide +kernel) (by decide +kernel)
set_option maxRecDepth 20000 in
theorem gX5_richest_X1_richestWords : GoodIn wsX5_richest (wsV RX5 164 RX1 yX1_richestWords wsX1_richestWords) := goodIn_app (goodIn_of _ (by decide +kernel)) ggX5_richest_X1_richestWords
theorem dX5_richest_0 : decode cX5_richest 0 = .ok (.aload_n 0, 1) := by decide +kernel
theorem dX5_richest_1 : decode cX5_richest 1 = .ok (.getfield 12, 3) := by decide +kernel
theorem dX5_richest_4 : decode cX5_richest 4 = .ok (.iload_n 1, 1) := by decide +kernel
theorem dX5_richest_5 : decode cX5_richest 5 = .ok (.invokevirtual 120, 3) := by decide +kernel
theorem dX5_richest_8 : decode cX5_richest 8 = .ok (.ifCond .ne 10, 3) := by decide +kernel
theorem dX5_richest_11 : decode cX5_richest 11 = .ok (.aload_n 0, 1) := by decide +kernel
theorem dX5_richest_12 : decode cX5_richest 12 = .ok (.ldc 63, 2) := by decide +kernel
theorem dX5_richest_14 : decode cX5_richest 14 = .ok (.invokevirtual 64, 3) := by decide +kernel
theorem dX5_richest_17 : decode cX5_richest 17 = .ok (.ireturn, 1) := by decide +kernel
theorem dX5_richest_18 : decode cX5_richest 18 = .ok (.aload_n 0, 1) := by decide +kernel
theorem dX5_richest_19 : decode cX5_richest 19 = .ok (.getfield 28, 3) := by decide +kernel
theorem dX5_richest_22 : decode cX5_richest 22 = .ok (.iload_n 1, 1) := by decide +kernel
theorem dX5_richest_23 : decode cX5_richest 23 = .ok (.invokevirtual 164, 3) := by decide +kernel
theorem dX5_richest_26 : decode cX5_richest 26 = .ok (.istore_n 2, 1) := by decide +kernel
theorem dX5_richest_27 : decode cX5_richest 27 = .ok (.iload_n 2, 1) := by decide +kernel
theorem dX5_richest_28 : decode cX5_richest 28 = .ok (.ifCond .ge 12, 3) := by decide +kernel
theorem dX5_richest_31 : decode cX5_richest 31 = .ok (.aload_n 0, 1) := by decide +kernel
theorem dX5_richest_32 : decode cX5_richest 32 = .ok (.ldc 129, 2) := by decide +kernel
theorem dX5_richest_34 : decode cX5_richest 34 = .ok (.invokevirtual 64, 3) := by decide +kernel
theorem dX5_richest_37 : decode cX5_richest 37 = .ok (.goto 4, 3) := by decide +kernel
theorem dX5_richest_40 : decode cX5_richest 40 = .ok (.iload_n 2, 1) := by decide +kernel
theorem dX5_richest_41 : decode cX5_richest 41 = .ok (.ireturn, 1) := by decide +kernel
set_option maxRecDepth 20000 in
theorem ggX5_fills_X3_hasTale : GoodIn wsX5_fills wsX3_hasTale := goodIn_r _ [13, 14, 76, 77, 78, 79, 80, 81, 82, 83, 84, 85, 86] (by decide +kernel) (by decide +kernel)
set_option maxRecDepth 20000 in
theorem gX5_fills_X3_hasTale : GoodIn wsX5_fills (wsV RX5 120 RX3 yX3_hasTale wsX3_hasTale) := goodIn_app (goodIn_of _ (by decide +kernel)) ggX5_fills_X3_hasTale
set_option maxRecDepth 20000 in
theorem ggX5_fills_X5_isIn : GoodIn wsX5_fills wsX5_isIn := goodIn_r _ [18] (by decide +kernel) (by decide +kernel)
set_option maxRecDepth 20000 in
theorem gX5_fills_X5_isIn : GoodIn wsX5_fills (va_wsS RX5 59 yX5_isIn wsX5_isIn) := goodIn_app (goodIn_of _ (by decide +kernel)) ggX5_fills_X5_isIn
set_option maxRecDepth 20000 in
theorem ggX5_fills_X5_found : GoodIn wsX5_fills wsX5_found := goodIn_r _ [22, 2, 23, 15, 16, 17, 18, 68, 69, 70, 71, 72, 73, 74, 75] (by decide +kernel) (by decide +kernel)
set_option maxRecDepth 20000 in
theorem gX5_fills_X5_found : GoodIn wsX5_fills (wsV RX5 64 RX5 yX5_found wsX5_found) := goodIn_app (goodIn_of _ (by decide +kernel)) ggX5_fills_X5_found
set_option maxRecDepth 20000 in
theorem ggX5_fills_X1_spanWords : GoodIn wsX5_fills wsX1_spanWords := goodIn_r _ [28, 29, 30, 31, 32, 33, 34, 35, 36, 12, 37, 38, 39, 40, 41, 42, 43, 44, 45, 46, 47, 48, 49, 50, 51, 52, 27, 53, 87, 88, 89, 90, 91, 92, 93, 76, 77, 78, 79, 80, 81, 82, 83, 84, 85, 86] (by decide +kernel) (by decide +kernel)
set_option maxRecDepth 20000 in
theorem gX5_fills_X1_spanWords : GoodIn wsX5_fills (wsV RX5 144 RX1 yX1_spanWords wsX1_spanWords) := goodIn_app (goodIn_of _ (by decide +kernel)) ggX5_fills_X1_spanWords
set_option maxRecDepth 20000 in
theorem ggX5_fills_X1_canBeIn : GoodIn wsX5_fills wsX1_canBeIn := goodIn_r _ [57, 31, 58, 59, 60, 27, 61, 32, 33, 87, 88, 89, 90, 91, 92, 93] (by decide +kernel) (by decide +kernel)
set_option maxRecDepth 20000 in
theorem gX5_fills_X1_canBeIn : GoodIn wsX5_fills (wsV RX5 167 RX1 yX1_canBeIn wsX1_canBeIn) := goodIn_app (goodIn_of _ (by decide +kernel)) ggX5_fills_X1_canBeIn
set_option maxRecDepth 20000 in
theorem ggX5_fills_X3_lengthsOf : GoodIn wsX5_fills wsX3_lengthsOf := goodIn_r _ [42, 43, 44, 45, 46, 47, 48, 12, 49, 76, 77, 78, 79, 80, 81, 82, 83, 84, 85, 86] (by decide +kernel) (by decide +kernel)
set_option maxRecDepth 20000 in
theorem gX5_fills_X3_lengthsOf : GoodIn wsX5_fills (wsV RX5 93 RX3 yX3_lengthsOf wsX3_lengthsOf) := goodIn_app (goodIn_of _ (by decide +kernel)) ggX5_fills_X3_lengthsOf
set_option maxRecDepth 20000 in
theorem ggX5_fills_X1_isFilledBy : GoodIn wsX5_fills wsX1_isFilledBy := goodIn_r _ [66, 67, 55, 56, 27, 57, 31, 58, 59, 60, 61, 32, 33, 87, 88, 89, 90, 91, 92, 93] (by decide +kernel) (by decide +kernel)
set_option maxRecDepth 20000 in
theorem gX5_fills_X1_isFilledBy : GoodIn wsX5_fills (wsV RX5 171 RX1 yX1_isFilledBy wsX1_isFilledBy) := goodIn_app (goodIn_of _ (by decide +kernel)) ggX5_fills_X1_isFilledBy
theorem dX5_fills_0 : decode cX5_fills 0 = .ok (.aload_n 0, 1) := by decide +kernel
theorem dX5_fills_1 : decode cX5_fills 1 = .ok (.getfield 12, 3) := by decide +kernel
theorem dX5_fills_4 : decode cX5_fills 4 = .ok (.iload_n 1, 1) := by decide +kernel
theorem dX5_fills_5 : decode cX5_fills 5 = .ok (.invokevirtual 120, 3) := by decide +kernel
theorem dX5_fills_8 : decode cX5_fills 8 = .ok (.ifCond .eq 13, 3) := by decide +kernel
theorem dX5_fills_11 : decode cX5_fills 11 = .ok (.iload_n 2, 1) := by decide +kernel
theorem dX5_fills_12 : decode cX5_fills 12 = .ok (.iconst 0, 1) := by decide +kernel
theorem dX5_fills_13 : decode cX5_fills 13 = .ok (.bipush 120, 2) := by decide +kernel
theorem dX5_fills_15 : decode cX5_fills 15 = .ok (.invokestatic 59, 3) := by decide +kernel
theorem dX5_fills_18 : decode cX5_fills 18 = .ok (.ifCond .ne 10, 3) := by decide +kernel
theorem dX5_fills_21 : decode cX5_fills 21 = .ok (.aload_n 0, 1) := by decide +kernel
theorem dX5_fills_22 : decode cX5_fills 22 = .ok (.ldc 63, 2) := by decide +kernel
theorem dX5_fills_24 : decode cX5_fills 24 = .ok (.invokevirtual 64, 3) := by decide +kernel
theorem dX5_fills_27 : decode cX5_fills 27 = .ok (.ireturn, 1) := by decide +kernel
theorem dX5_fills_28 : decode cX5_fills 28 = .ok (.aload_n 0, 1) := by decide +kernel
theorem dX5_fills_29 : decode cX5_fills 29 = .ok (.getfield 12, 3) := by decide +kernel
theorem dX5_fills_32 : decode cX5_fills 32 = .ok (.getfield 123, 3) := by decide +kernel
theorem dX5_fills_35 : decode cX5_fills 35 = .ok (.iload_n 1, 1) := by decide +kernel
theorem dX5_fills_36 : decode cX5_fills 36 = .ok (.iaload, 1) := by decide +kernel
theorem dX5_fills_37 : decode cX5_fills 37 = .ok (.bipush 10, 2) := by decide +kernel
theorem dX5_fills_39 : decode cX5_fills 39 = .ok (.if_icmp .lt 10, 3) := by decide +kernel
theorem dX5_fills_42 : decode cX5_fills 42 = .ok (.aload_n 0, 1) := by decide +kernel
theorem dX5_fills_43 : decode cX5_fills 43 = .ok (.ldc 72, 2) := by decide +kernel
theorem dX5_fills_45 : decode cX5_fills 45 = .ok (.invokevirtual 64, 3) := by decide +kernel
theorem dX5_fills_48 : decode cX5_fills 48 = .ok (.ireturn, 1) := by decide +kernel
theorem dX5_fills_49 : decode cX5_fills 49 = .ok (.aload_n 0, 1) := by decide +kernel
theorem dX5_fills_50 : decode cX5_fills 50 = .ok (.getfield 28, 3) := by decide +kernel
theorem dX5_fills_53 : decode cX5_fills 53 = .ok (.iload_n 1, 1) := by decide +kernel
theorem dX5_fills_54 : decode cX5_fills 54 = .ok (.invokevirtual 144, 3) := by decide +kernel
theorem dX5_fills_57 : decode cX5_fills 57 = .ok (.aload_n 0, 1) := by decide +kernel
theorem dX5_fills_58 : decode cX5_fills 58 = .ok (.getfield 28, 3) := by decide +kernel
theorem dX5_fills_61 : decode cX5_fills 61 = .ok (.iload_n 2, 1) := by decide +kernel
theorem dX5_fills_62 : decode cX5_fills 62 = .ok (.invokevirtual 167, 3) := by decide +kernel
theorem dX5_fills_65 : decode cX5_fills 65 = .ok (.ifCond .eq 10, 3) := by decide +kernel
theorem dX5_fills_68 : decode cX5_fills 68 = .ok (.aload_n 0, 1) := by decide +kernel
theorem dX5_fills_69 : decode cX5_fills 69 = .ok (.ldc 170, 2) := by decide +kernel
theorem dX5_fills_71 : decode cX5_fills 71 = .ok (.invokevirtual 64, 3) := by decide +kernel
theorem dX5_fills_74 : decode cX5_fills 74 = .ok (.ireturn, 1) := by decide +kernel
theorem dX5_fills_75 : decode cX5_fills 75 = .ok (.iconst 0, 1) := by decide +kernel
theorem dX5_fills_76 : decode cX5_fills 76 = .ok (.istore_n 3, 1) := by decide +kernel
theorem dX5_fills_77 : decode cX5_fills 77 = .ok (.iload_n 3, 1) := by decide +kernel
theorem dX5_fills_78 : decode cX5_fills 78 = .ok (.aload_n 0, 1) := by decide +kernel
theorem dX5_fills_79 : decode cX5_fills 79 = .ok (.getfield 12, 3) := by decide +kernel
theorem dX5_fills_82 : decode cX5_fills 82 = .ok (.getfield 68, 3) := by decide +kernel
theorem dX5_fills_85 : decode cX5_fills 85 = .ok (.if_icmp .ge 30, 3) := by decide +kernel
theorem dX5_fills_88 : decode cX5_fills 88 = .ok (.aload_n 0, 1) := by decide +kernel
theorem dX5_fills_89 : decode cX5_fills 89 = .ok (.getfield 28, 3) := by decide +kernel
theorem dX5_fills_92 : decode cX5_fills 92 = .ok (.aload_n 0, 1) := by decide +kernel
theorem dX5_fills_93 : decode cX5_fills 93 = .ok (.getfield 12, 3) := by decide +kernel
theorem dX5_fills_96 : decode cX5_fills 96 = .ok (.iload_n 3, 1) := by decide +kernel
theorem dX5_fills_97 : decode cX5_fills 97 = .ok (.invokevirtual 93, 3) := by decide +kernel
theorem dX5_fills_100 : decode cX5_fills 100 = .ok (.iload_n 2, 1) := by decide +kernel
theorem dX5_fills_101 : decode cX5_fills 101 = .ok (.invokevirtual 171, 3) := by decide +kernel
theorem dX5_fills_104 : decode cX5_fills 104 = .ok (.ifCond .eq 5, 3) := by decide +kernel
theorem dX5_fills_107 : decode cX5_fills 107 = .ok (.iload_n 3, 1) := by decide +kernel
theorem dX5_fills_108 : decode cX5_fills 108 = .ok (.ireturn, 1) := by decide +kernel
theorem dX5_fills_109 : decode cX5_fills 109 = .ok (.iinc 3 1, 3) := by decide +kernel
theorem dX5_fills_112 : decode cX5_fills 112 = .ok (.goto (-35), 3) := by decide +kernel
theorem dX5_fills_115 : decode cX5_fills 115 = .ok (.aload_n 0, 1) := by decide +kernel
theorem dX5_fills_116 : decode cX5_fills 116 = .ok (.ldc 129, 2) := by decide +kernel
theorem dX5_fills_118 : decode cX5_fills 118 = .ok (.invokevirtual 64, 3) := by decide +kernel
theorem dX5_fills_121 : decode cX5_fills 121 = .ok (.ireturn, 1) := by decide +kernel
set_option maxRecDepth 20000 in
theorem ggX5_hearer_X5_isIn : GoodIn wsX5_hearer wsX5_isIn := goodIn_r _ [8] (by decide +kernel) (by decide +kernel)
set_option maxRecDepth 20000 in
theorem gX5_hearer_X5_isIn : GoodIn wsX5_hearer (va_wsS RX5 59 yX5_isIn wsX5_isIn) := goodIn_app (goodIn_of _ (by decide +kernel)) ggX5_hearer_X5_isIn
set_option maxRecDepth 20000 in
theorem ggX5_hearer_X5_found : GoodIn wsX5_hearer wsX5_found := goodIn_r _ [12, 1, 13, 5, 6, 7, 8, 21, 22, 23, 24, 25, 26, 27, 28] (by decide +kernel) (by decide +kernel)
set_option maxRecDepth 20000 in
theorem gX5_hearer_X5_found : GoodIn wsX5_hearer (wsV RX5 64 RX5 yX5_found wsX5_found) := goodIn_app (goodIn_of _ (by decide +kernel)) ggX5_hearer_X5_found
set_option maxRecDepth 20000 in
theorem ggX5_hearer_X3_addHearer : GoodIn wsX5_hearer wsX3_addHearer := goodIn_r _ [18, 19, 20, 29, 30, 31, 32, 33, 34, 35, 36, 37, 38, 39] (by decide +kernel) (by decide +kernel)
set_option maxRecDepth 20000 in
theorem gX5_hearer_X3_addHearer : GoodIn wsX5_hearer (wsV RX5 177 RX3 yX3_addHearer wsX3_addHearer) := goodIn_app (goodIn_of _ (by decide +kernel)) ggX5_hearer_X3_addHearer
theorem dX5_hearer_0 : decode cX5_hearer 0 = .ok (.iload_n 1, 1) := by decide +kernel
theorem dX5_hearer_1 : decode cX5_hearer 1 = .ok (.iconst 0, 1) := by decide +kernel
theorem dX5_hearer_2 : decode cX5_hearer 2 = .ok (.bipush 99, 2) := by decide +kernel
theorem dX5_hearer_4 : decode cX5_hearer 4 = .ok (.invokestatic 59, 3) := by decide +kernel
theorem dX5_hearer_7 : decode cX5_hearer 7 = .ok (.ifCond .ne 10, 3) := by decide +kernel
theorem dX5_hearer_10 : decode cX5_hearer 10 = .ok (.aload_n 0, 1) := by decide +kernel
theorem dX5_hearer_11 : decode cX5_hearer 11 = .ok (.ldc 63, 2) := by decide +kernel
theorem dX5_hearer_13 : decode cX5_hearer 13 = .ok (.invokevirtual 64, 3) := by decide +kernel
theorem dX5_hearer_16 : decode cX5_hearer 16 = .ok (.ireturn, 1) := by decide +kernel
theorem dX5_hearer_17 : decode cX5_hearer 17 = .ok (.aload_n 0, 1) := by decide +kernel
theorem dX5_hearer_18 : decode cX5_hearer 18 = .ok (.getfield 12, 3) := by decide +kernel
theorem dX5_hearer_21 : decode cX5_hearer 21 = .ok (.getfield 174, 3) := by decide +kernel
theorem dX5_hearer_24 : decode cX5_hearer 24 = .ok (.bipush 10, 2) := by decide +kernel
theorem dX5_hearer_26 : decode cX5_hearer 26 = .ok (.if_icmp .lt 12, 3) := by decide +kernel
theorem dX5_hearer_29 : decode cX5_hearer 29 = .ok (.aload_n 0, 1) := by decide +kernel
theorem dX5_hearer_30 : decode cX5_hearer 30 = .ok (.ldc 72, 2) := by decide +kernel
theorem dX5_hearer_32 : decode cX5_hearer 32 = .ok (.invokevirtual 64, 3) := by decide +kernel
theorem dX5_hearer_35 : decode cX5_hearer 35 = .ok (.goto 11, 3) := by decide +kernel
theorem dX5_hearer_38 : decode cX5_hearer 38 = .ok (.aload_n 0, 1) := by decide +kernel
theorem dX5_hearer_39 : decode cX5_hearer 39 = .ok (.getfield 12, 3) := by decide +kernel
theorem dX5_hearer_42 : decode cX5_hearer 42 = .ok (.iload_n 1, 1) := by decide +kernel
theorem dX5_hearer_43 : decode cX5_hearer 43 = .ok (.invokevirtual 177, 3) := by decide +kernel
theorem dX5_hearer_46 : decode cX5_hearer 46 = .ok (.ireturn, 1) := by decide +kernel
set_option maxRecDepth 20000 in
theorem ggX5_age_X3_hasHearer : GoodIn wsX5_age wsX3_hasHearer := goodIn_r _ [8, 9, 30, 31, 32, 33, 34, 35, 36, 37, 38, 39, 40] (by decide +kernel) (by decide +kernel)
set_option maxRecDepth 20000 in
theorem gX5_age_X3_hasHearer : GoodIn wsX5_age (wsV RX5 180 RX3 yX3_hasHearer wsX3_hasHearer) := goodIn_app (goodIn_of _ (by decide +kernel)) ggX5_age_X3_hasHearer
set_option maxRecDepth 20000 in
theorem ggX5_age_X5_isIn : GoodIn wsX5_age wsX5_isIn := goodIn_r _ [13] (by decide +kernel) (by decide +kernel)
set_option maxRecDepth 20000 in
theorem gX5_age_X5_isIn : GoodIn wsX5_age (va_wsS RX5 59 yX5_isIn wsX5_isIn) := goodIn_app (goodIn_of _ (by decide +kernel)) ggX5_age_X5_isIn
set_option maxRecDepth 20000 in
theorem ggX5_age_X5_found : GoodIn wsX5_age wsX5_found := goodIn_r _ [17, 2, 18, 10, 11, 12, 13, 22, 23, 24, 25, 26, 27, 28, 29] (by decide +kernel) (by decide +kernel)
set_option maxRecDepth 20000 in
theorem gX5_age_X5_found : GoodIn wsX5_age (wsV RX5 64 RX5 yX5_found wsX5_found) := goodIn_app (goodIn_of _ (by decide +kernel)) ggX5_age_X5_found
set_option maxRecDepth 20000 in
theorem ggX5_age_X5_swap : GoodIn wsX5_age wsX5_swap := goodIn_r _ [21] (by decide +kernel) (by decide +kernel)
set_option maxRecDepth 20000 in
theorem gX5_age_X5_swap : GoodIn wsX5_age (va_wsS RX5 96 yX5_swap wsX5_swap) := goodIn_app (goodIn_of _ (by decide +kernel)) ggX5_age_X5_swap
theorem dX5_age_0 : decode cX5_age 0 = .ok (.aload_n 0, 1) := by decide +kernel
theorem dX5_age_1 : decode cX5_age 1 = .ok (.getfield 12, 3) := by decide +kernel
theorem dX5_age_4 : decode cX5_age 4 = .ok (.iload_n 1, 1) := by decide +kernel
theorem dX5_age_5 : decode cX5_age 5 = .ok (.invokevirtual 180, 3) := by decide +kernel
theorem dX5_age_8 : decode cX5_age 8 = .ok (.ifCond .eq 13, 3) := by decide +kernel
theorem dX5_age_11 : decode cX5_age 11 = .ok (.iload_n 2, 1) := by decide +kernel
theorem dX5_age_12 : decode cX5_age 12 = .ok (.iconst 0, 1) := by decide +kernel
theorem dX5_age_13 : decode cX5_age 13 = .ok (.bipush 99, 2) := by decide +kernel
theorem dX5_age_15 : decode cX5_age 15 = .ok (.invokestatic 59, 3) := by decide +kernel
theorem dX5_age_18 : decode cX5_age 18 = .ok (.ifCond .ne 10, 3) := by decide +kernel
theorem dX5_age_21 : decode cX5_age 21 = .ok (.aload_n 0, 1) := by decide +kernel
theorem dX5_age_22 : decode cX5_age 22 = .ok (.ldc 63, 2) := by decide +kernel
theorem dX5_age_24 : decode cX5_age 24 = .ok (.invokevirtual 64, 3) := by decide +kernel
theorem dX5_age_27 : decode cX5_age 27 = .ok (.ireturn, 1) := by decide +kernel
theorem dX5_age_28 : decode cX5_age 28 = .ok (.aload_n 0, 1) := by decide +kernel
theorem dX5_age_29 : decode cX5_age 29 = .ok (.getfield 12, 3) := by decide +kernel
theorem dX5_age_32 : decode cX5_age 32 = .ok (.getfield 183, 3) := by decide +kernel
theorem dX5_age_35 : decode cX5_age 35 = .ok (.iload_n 1, 1) := by decide +kernel
theorem dX5_age_36 : decode cX5_age 36 = .ok (.iload_n 2, 1) := by decide +kernel
theorem dX5_age_37 : decode cX5_age 37 = .ok (.invokestatic 96, 3) := by decide +kernel
theorem dX5_age_40 : decode cX5_age 40 = .ok (.ireturn, 1) := by decide +kernel
set_option maxRecDepth 20000 in
theorem ggX5_ageOf_X3_hasHearer : GoodIn wsX5_ageOf wsX3_hasHearer := goodIn_r _ [8, 9, 27, 28, 29, 30, 31, 32, 33, 34, 35, 36, 37] (by decide +kernel) (by decide +kernel)
set_option maxRecDepth 20000 in
theorem gX5_ageOf_X3_hasHearer : GoodIn wsX5_ageOf (wsV RX5 180 RX3 yX3_hasHearer wsX3_hasHearer) := goodIn_app (goodIn_of _ (by decide +kernel)) ggX5_ageOf_X3_hasHearer
set_option maxRecDepth 20000 in
theorem ggX5_ageOf_X5_found : GoodIn wsX5_ageOf wsX5_found := goodIn_r _ [14, 3, 15, 16, 17, 13, 18, 19, 20, 21, 22, 23, 24, 25, 26] (by decide +kernel) (by decide +kernel)
set_option maxRecDepth 20000 in
theorem gX5_ageOf_X5_found : GoodIn wsX5_ageOf (wsV RX5 64 RX5 yX5_found wsX5_found) := goodIn_app (goodIn_of _ (by decide +kernel)) ggX5_ageOf_X5_found
theorem dX5_ageOf_0 : decode cX5_ageOf 0 = .ok (.aload_n 0, 1) := by decide +kernel
theorem dX5_ageOf_1 : decode cX5_ageOf 1 = .ok (.getfield 12, 3) := by decide +kernel
theorem dX5_ageOf_4 : decode cX5_ageOf 4 = .ok (.iload_n 1, 1) := by decide +kernel
theorem dX5_ageOf_5 : decode cX5_ageOf 5 = .ok (.invokevirtual 180, 3) := by decide +kernel
theorem dX5_ageOf_8 : decode cX5_ageOf 8 = .ok (.ifCond .eq 15, 3) := by decide +kernel
theorem dX5_ageOf_11 : decode cX5_ageOf 11 = .ok (.aload_n 0, 1) := by decide +kernel
theorem dX5_ageOf_12 : decode cX5_ageOf 12 = .ok (.getfield 12, 3) := by decide +kernel
theorem dX5_ageOf_15 : decode cX5_ageOf 15 = .ok (.getfield 183, 3) := by decide +kernel
theorem dX5_ageOf_18 : decode cX5_ageOf 18 = .ok (.iload_n 1, 1) := by decide +kernel
theorem dX5_ageOf_19 : decode cX5_ageOf 19 = .ok (.iaload, 1) := by decide +kernel
theorem dX5_ageOf_20 : decode cX5_ageOf 20 = .ok (.goto 9, 3) := by decide +kernel
theorem dX5_ageOf_23 : decode cX5_ageOf 23 = .ok (.aload_n 0, 1) := by decide +kernel
theorem dX5_ageOf_24 : decode cX5_ageOf 24 = .ok (.ldc 63, 2) := by decide +kernel
theorem dX5_ageOf_26 : decode cX5_ageOf 26 = .ok (.invokevirtual 64, 3) := by decide +kernel
theorem dX5_ageOf_29 : decode cX5_ageOf 29 = .ok (.ireturn, 1) := by decide +kernel
set_option maxRecDepth 20000 in
theorem ggX5_to_X3_hasTale : GoodIn wsX5_to wsX3_hasTale := goodIn_r _ [8, 9, 71, 72, 73, 74, 75, 76, 77, 78, 79, 80, 81] (by decide +kernel) (by decide +kernel)
set_option maxRecDepth 20000 in
theorem gX5_to_X3_hasTale : GoodIn wsX5_to (wsV RX5 120 RX3 yX3_hasTale wsX3_hasTale) := goodIn_app (goodIn_of _ (by decide +kernel)) ggX5_to_X3_hasTale
set_option maxRecDepth 20000 in
theorem ggX5_to_X5_found : GoodIn wsX5_to wsX5_found := goodIn_r _ [14, 2, 15, 16, 17, 13, 18, 63, 64, 65, 66, 67, 68, 69, 70] (by decide +kernel) (by decide +kernel)
set_option maxRecDepth 20000 in
theorem gX5_to_X5_found : GoodIn wsX5_to (wsV RX5 64 RX5 yX5_found wsX5_found) := goodIn_app (goodIn_of _ (by decide +kernel)) ggX5_to_X5_found
set_option maxRecDepth 20000 in
theorem ggX5_to_X1_spanWords : GoodIn wsX5_to wsX1_spanWords := goodIn_r _ [23, 24, 25, 26, 27, 28, 29, 30, 31, 7, 32, 33, 34, 35, 36, 37, 38, 39, 40, 41, 42, 43, 44, 45, 46, 47, 22, 48, 82, 83, 84, 85, 86, 87, 88, 71, 72, 73, 74, 75, 76, 77, 78, 79, 80, 81] (by decide +kernel) (by decide +kernel)
set_option maxRecDepth 20000 in
theorem gX5_to_X1_spanWords : GoodIn wsX5_to (wsV RX5 144 RX1 yX1_spanWords wsX1_spanWords) := goodIn_app (goodIn_of _ (by decide +kernel)) ggX5_to_X1_spanWords
set_option maxRecDepth 20000 in
theorem ggX5_to_X1_sayableTo : GoodIn wsX5_to wsX1_sayableTo := goodIn_r _ [52, 24, 53, 54, 55, 56, 57, 22, 58, 26, 59, 60, 61, 62, 27, 28, 82, 83, 84, 85, 86, 87, 88, 71, 72, 73, 74, 75, 76, 77, 78, 79, 80, 81] (by decide +kernel) (by decide +kernel)
set_option maxRecDepth 20000 in
theorem gX5_to_X1_sayableTo : GoodIn wsX5_to (wsV RX5 186 RX1 yX1_sayableTo wsX1_sayableTo) := goodIn_app (goodIn_of _ (by decide +kernel)) ggX5_to_X1_sayableTo
theorem dX5_to_0 : decode cX5_to 0 = .ok (.aload_n 0, 1) := by decide +kernel
theorem dX5_to_1 : decode cX5_to 1 = .ok (.getfield 12, 3) := by decide +kernel
theorem dX5_to_4 : decode cX5_to 4 = .ok (.iload_n 1, 1) := by decide +kernel
theorem dX5_to_5 : decode cX5_to 5 = .ok (.invokevirtual 120, 3) := by decide +kernel
theorem dX5_to_8 : decode cX5_to 8 = .ok (.ifCond .ne 10, 3) := by decide +kernel
theorem dX5_to_11 : decode cX5_to 11 = .ok (.aload_n 0, 1) := by decide +kernel
theorem dX5_to_12 : decode cX5_to 12 = .ok (.ldc 63, 2) := by decide +kernel
theorem dX5_to_14 : decode cX5_to 14 = .ok (.invokevirtual 64, 3) := by decide +kernel
theorem dX5_to_17 : decode cX5_to 17 = .ok (.ireturn, 1) := by decide +kernel
theorem dX5_to_18 : decode cX5_to 18 = .ok (.aload_n 0, 1) := by decide +kernel
theorem dX5_to_19 : decode cX5_to 19 = .ok (.getfield 28, 3) := by decide +kernel
theorem dX5_to_22 : decode cX5_to 22 = .ok (.iload_n 1, 1) := by decide +kernel
theorem dX5_to_23 : decode cX5_to 23 = .ok (.invokevirtual 144, 3) := by decide +kernel
theorem dX5_to_26 : decode cX5_to 26 = .ok (.aload_n 0, 1) := by decide +kernel
theorem dX5_to_27 : decode cX5_to 27 = .ok (.getfield 28, 3) := by decide +kernel
theorem dX5_to_30 : decode cX5_to 30 = .ok (.invokevirtual 186, 3) := by decide +kernel
theorem dX5_to_33 : decode cX5_to 33 = .ok (.ireturn, 1) := by decide +kernel
set_option maxRecDepth 20000 in
theorem ggX5_tales_X3_hasHearer : GoodIn wsX5_tales wsX3_hasHearer := goodIn_r _ [10, 11, 67, 68, 69, 70, 71, 72, 73, 74, 75, 76, 77] (by decide +kernel) (by decide +kernel)
set_option maxRecDepth 20000 in
theorem gX5_tales_X3_hasHearer : GoodIn wsX5_tales (wsV RX5 180 RX3 yX3_hasHearer wsX3_hasHearer) := goodIn_app (goodIn_of _ (by decide +kernel)) ggX5_tales_X3_hasHearer
set_option maxRecDepth 20000 in
theorem ggX5_tales_X5_found : GoodIn wsX5_tales wsX5_found := goodIn_r _ [16, 2, 17, 18, 19, 15, 20, 59, 60, 61, 62, 63, 64, 65, 66] (by decide +kernel) (by decide +kernel)
set_option maxRecDepth 20000 in
theorem gX5_tales_X5_found : GoodIn wsX5_tales (wsV RX5 64 RX5 yX5_found wsX5_found) := goodIn_app (goodIn_of _ (by decide +kernel)) ggX5_tales_X5_found
set_option maxRecDepth 20000 in
theorem ggX5_tales_X1_spanWords : GoodIn wsX5_tales wsX1_spanWords := goodIn_r _ [25, 26, 27, 28, 29, 30, 31, 32, 33, 9, 34, 35, 36, 37, 38, 39, 40, 41, 42, 43, 44, 45, 46, 47, 48, 49, 24, 50, 78, 79, 80, 81, 82, 83, 84, 67, 68, 69, 70, 71, 72, 73, 74, 75, 76, 77] (by decide +kernel) (by decide +kernel)
set_option maxRecDepth 20000 in
theorem gX5_tales_X1_spanWords : GoodIn wsX5_tales (wsV RX5 144 RX1 yX1_spanWords wsX1_spanWords) := goodIn_app (goodIn_of _ (by decide +kernel)) ggX5_tales_X1_spanWords
set_option maxRecDepth 20000 in
theorem ggX5_tales_X1_canBeIn : GoodIn wsX5_tales wsX1_canBeIn := goodIn_r _ [54, 28, 55, 56, 57, 24, 58, 29, 30, 78, 79, 80, 81, 82, 83, 84] (by decide +kernel) (by decide +kernel)
set_option maxRecDepth 20000 in
theorem gX5_tales_X1_canBeIn : GoodIn wsX5_tales (wsV RX5 167 RX1 yX1_canBeIn wsX1_canBeIn) := goodIn_app (goodIn_of _ (by decide +kernel)) ggX5_tales_X1_canBeIn
theorem dX5_tales_0 : decode cX5_tales 0 = .ok (.aload_n 0, 1) := by decide +kernel
theorem dX5_tales_1 : decode cX5_tales 1 = .ok (.getfield 12, 3) := by decide +kernel
theorem dX5_tales_4 : decode cX5_tales 4 = .ok (.iload_n 1, 1) := by decide +kernel
theorem dX5_tales_5 : decode cX5_tales 5 = .ok (.invokevirtual 180, 3) := by decide +kernel
theorem dX5_tales_8 : decode cX5_tales 8 = .ok (.ifCond .ne 10, 3) := by decide +kernel
theorem dX5_tales_11 : decode cX5_tales 11 = .ok (.aload_n 0, 1) := by decide +kernel
theorem dX5_tales_12 : decode cX5_tales 12 = .ok (.ldc 63, 2) := by decide +kernel
theorem dX5_tales_14 : decode cX5_tales 14 = .ok (.invokevirtual 64, 3) := by decide +kernel
theorem dX5_tales_17 : decode cX5_tales 17 = .ok (.ireturn, 1) := by decide +kernel
theorem dX5_tales_18 : decode cX5_tales 18 = .ok (.iconst 0, 1) := by decide +kernel
theorem dX5_tales_19 : decode cX5_tales 19 = .ok (.istore_n 2, 1) := by decide +kernel
theorem dX5_tales_20 : decode cX5_tales 20 = .ok (.iconst 0, 1) := by decide +kernel
theorem dX5_tales_21 : decode cX5_tales 21 = .ok (.istore_n 3, 1) := by decide +kernel
theorem dX5_tales_22 : decode cX5_tales 22 = .ok (.iload_n 3, 1) := by decide +kernel
theorem dX5_tales_23 : decode cX5_tales 23 = .ok (.aload_n 0, 1) := by decide +kernel
theorem dX5_tales_24 : decode cX5_tales 24 = .ok (.getfield 12, 3) := by decide +kernel
theorem dX5_tales_27 : decode cX5_tales 27 = .ok (.getfield 113, 3) := by decide +kernel
theorem dX5_tales_30 : decode cX5_tales 30 = .ok (.if_icmp .ge 42, 3) := by decide +kernel
theorem dX5_tales_33 : decode cX5_tales 33 = .ok (.aload_n 0, 1) := by decide +kernel
theorem dX5_tales_34 : decode cX5_tales 34 = .ok (.getfield 28, 3) := by decide +kernel
theorem dX5_tales_37 : decode cX5_tales 37 = .ok (.iload_n 3, 1) := by decide +kernel
theorem dX5_tales_38 : decode cX5_tales 38 = .ok (.invokevirtual 144, 3) := by decide +kernel
theorem dX5_tales_41 : decode cX5_tales 41 = .ok (.aload_n 0, 1) := by decide +kernel
theorem dX5_tales_42 : decode cX5_tales 42 = .ok (.getfield 28, 3) := by decide +kernel
theorem dX5_tales_45 : decode cX5_tales 45 = .ok (.aload_n 0, 1) := by decide +kernel
theorem dX5_tales_46 : decode cX5_tales 46 = .ok (.getfield 12, 3) := by decide +kernel
theorem dX5_tales_49 : decode cX5_tales 49 = .ok (.getfield 183, 3) := by decide +kernel
theorem dX5_tales_52 : decode cX5_tales 52 = .ok (.iload_n 1, 1) := by decide +kernel
theorem dX5_tales_53 : decode cX5_tales 53 = .ok (.iaload, 1) := by decide +kernel
theorem dX5_tales_54 : decode cX5_tales 54 = .ok (.invokevirtual 167, 3) := by decide +kernel
theorem dX5_tales_57 : decode cX5_tales 57 = .ok (.ifCond .eq 9, 3) := by decide +kernel
theorem dX5_tales_60 : decode cX5_tales 60 = .ok (.iload_n 2, 1) := by decide +kernel
theorem dX5_tales_61 : decode cX5_tales 61 = .ok (.iconst 1, 1) := by decide +kernel
theorem dX5_tales_62 : decode cX5_tales 62 = .ok (.iload_n 3, 1) := by decide +kernel
theorem dX5_tales_63 : decode cX5_tales 63 = .ok (.ishl, 1) := by decide +kernel
theorem dX5_tales_64 : decode cX5_tales 64 = .ok (.ior, 1) := by decide +kernel
theorem dX5_tales_65 : decode cX5_tales 65 = .ok (.istore_n 2, 1) := by decide +kernel
theorem dX5_tales_66 : decode cX5_tales 66 = .ok (.iinc 3 1, 3) := by decide +kernel
theorem dX5_tales_69 : decode cX5_tales 69 = .ok (.goto (-47), 3) := by decide +kernel
theorem dX5_tales_72 : decode cX5_tales 72 = .ok (.iload_n 2, 1) := by decide +kernel
theorem dX5_tales_73 : decode cX5_tales 73 = .ok (.ireturn, 1) := by decide +kernel
set_option maxRecDepth 20000 in
theorem ggX5_years_X5_isIn : GoodIn wsX5_years wsX5_isIn := goodIn_r _ [12] (by decide +kernel) (by decide +kernel)
set_option maxRecDepth 20000 in
theorem gX5_years_X5_isIn : GoodIn wsX5_years (va_wsS RX5 59 yX5_isIn wsX5_isIn) := goodIn_app (goodIn_of _ (by decide +kernel)) ggX5_years_X5_isIn
set_option maxRecDepth 20000 in
theorem ggX5_years_X5_found : GoodIn wsX5_years wsX5_found := goodIn_r _ [16, 1, 17, 9, 10, 11, 12, 73, 74, 75, 76, 77, 78, 79, 80] (by decide +kernel) (by decide +kernel)
set_option maxRecDepth 20000 in
theorem gX5_years_X5_found : GoodIn wsX5_years (wsV RX5 64 RX5 yX5_found wsX5_found) := goodIn_app (goodIn_of _ (by decide +kernel)) ggX5_years_X5_found
set_option maxRecDepth 20000 in
theorem ggX5_years_X1_spanWords : GoodIn wsX5_years wsX1_spanWords := goodIn_r _ [22, 23, 24, 25, 26, 27, 28, 29, 30, 31, 32, 33, 34, 35, 36, 37, 38, 39, 40, 41, 42, 43, 44, 45, 46, 47, 21, 48, 92, 93, 94, 95, 96, 97, 98, 81, 82, 83, 84, 85, 86, 87, 88, 89, 90, 91] (by decide +kernel) (by decide +kernel)
set_option maxRecDepth 20000 in
theorem gX5_years_X1_spanWords : GoodIn wsX5_years (wsV RX5 144 RX1 yX1_spanWords wsX1_spanWords) := goodIn_app (goodIn_of _ (by decide +kernel)) ggX5_years_X1_spanWords
set_option maxRecDepth 20000 in
theorem ggX5_years_X1_canBeIn : GoodIn wsX5_years wsX1_canBeIn := goodIn_r _ [52, 25, 53, 54, 55, 21, 56, 26, 27, 92, 93, 94, 95, 96, 97, 98] (by decide +kernel) (by decide +kernel)
set_option maxRecDepth 20000 in
theorem gX5_years_X1_canBeIn : GoodIn wsX5_years (wsV RX5 167 RX1 yX1_canBeIn wsX1_canBeIn) := goodIn_app (goodIn_of _ (by decide +kernel)) ggX5_years_X1_canBeIn
set_option maxRecDepth 20000 in
theorem ggX5_years_X3_ageIn : GoodIn wsX5_years wsX3_ageIn := goodIn_r _ [60, 61, 62, 63, 64, 65, 81, 82, 83, 84, 85, 86, 87, 88, 89, 90, 91] (by decide +kernel) (by decide +kernel)
set_option maxRecDepth 20000 in
theorem gX5_years_X3_ageIn : GoodIn wsX5_years (wsV RX5 192 RX3 yX3_ageIn wsX3_ageIn) := goodIn_app (goodIn_of _ (by decide +kernel)) ggX5_years_X3_ageIn
set_option maxRecDepth 20000 in
theorem ggX5_years_X3_growOlder : GoodIn wsX5_years wsX3_growOlder := goodIn_r _ [69, 70, 61, 71, 72, 58, 59, 31, 60, 62, 63, 64, 65, 81, 82, 83, 84, 85, 86, 87, 88, 89, 90, 91] (by decide +kernel) (by decide +kernel)
set_option maxRecDepth 20000 in
theorem gX5_years_X3_growOlder : GoodIn wsX5_years (wsV RX5 195 RX3 yX3_growOlder wsX3_growOlder) := goodIn_app (goodIn_of _ (by decide +kernel)) ggX5_years_X3_growOlder
theorem dX5_years_0 : decode cX5_years 0 = .ok (.iload_n 1, 1) := by decide +kernel
theorem dX5_years_1 : decode cX5_years 1 = .ok (.iconst 1, 1) := by decide +kernel
theorem dX5_years_2 : decode cX5_years 2 = .ok (.bipush 60, 2) := by decide +kernel
theorem dX5_years_4 : decode cX5_years 4 = .ok (.invokestatic 59, 3) := by decide +kernel
theorem dX5_years_7 : decode cX5_years 7 = .ok (.ifCond .ne 10, 3) := by decide +kernel
theorem dX5_years_10 : decode cX5_years 10 = .ok (.aload_n 0, 1) := by decide +kernel
theorem dX5_years_11 : decode cX5_years 11 = .ok (.ldc 63, 2) := by decide +kernel
theorem dX5_years_13 : decode cX5_years 13 = .ok (.invokevirtual 64, 3) := by decide +kernel
theorem dX5_years_16 : decode cX5_years 16 = .ok (.ireturn, 1) := by decide +kernel
theorem dX5_years_17 : decode cX5_years 17 = .ok (.aload_n 0, 1) := by decide +kernel
theorem dX5_years_18 : decode cX5_years 18 = .ok (.getfield 12, 3) := by decide +kernel
theorem dX5_years_21 : decode cX5_years 21 = .ok (.getfield 189, 3) := by decide +kernel
theorem dX5_years_24 : decode cX5_years 24 = .ok (.iload_n 1, 1) := by decide +kernel
theorem dX5_years_25 : decode cX5_years 25 = .ok (.iadd, 1) := by decide +kernel
theorem dX5_years_26 : decode cX5_years 26 = .ok (.sipush 999, 3) := by decide +kernel
theorem dX5_years_29 : decode cX5_years 29 = .ok (.if_icmp .le 10, 3) := by decide +kernel
theorem dX5_years_32 : decode cX5_years 32 = .ok (.aload_n 0, 1) := by decide +kernel
theorem dX5_years_33 : decode cX5_years 33 = .ok (.ldc 170, 2) := by decide +kernel
theorem dX5_years_35 : decode cX5_years 35 = .ok (.invokevirtual 64, 3) := by decide +kernel
theorem dX5_years_38 : decode cX5_years 38 = .ok (.ireturn, 1) := by decide +kernel
theorem dX5_years_39 : decode cX5_years 39 = .ok (.iconst 0, 1) := by decide +kernel
theorem dX5_years_40 : decode cX5_years 40 = .ok (.istore_n 2, 1) := by decide +kernel
theorem dX5_years_41 : decode cX5_years 41 = .ok (.iconst 0, 1) := by decide +kernel
theorem dX5_years_42 : decode cX5_years 42 = .ok (.istore_n 3, 1) := by decide +kernel
theorem dX5_years_43 : decode cX5_years 43 = .ok (.iload_n 3, 1) := by decide +kernel
theorem dX5_years_44 : decode cX5_years 44 = .ok (.aload_n 0, 1) := by decide +kernel
theorem dX5_years_45 : decode cX5_years 45 = .ok (.getfield 12, 3) := by decide +kernel
theorem dX5_years_48 : decode cX5_years 48 = .ok (.getfield 113, 3) := by decide +kernel
theorem dX5_years_51 : decode cX5_years 51 = .ok (.if_icmp .ge 81, 3) := by decide +kernel
theorem dX5_years_54 : decode cX5_years 54 = .ok (.aload_n 0, 1) := by decide +kernel
theorem dX5_years_55 : decode cX5_years 55 = .ok (.getfield 28, 3) := by decide +kernel
theorem dX5_years_58 : decode cX5_years 58 = .ok (.iload_n 3, 1) := by decide +kernel
theorem dX5_years_59 : decode cX5_years 59 = .ok (.invokevirtual 144, 3) := by decide +kernel
theorem dX5_years_62 : decode cX5_years 62 = .ok (.iconst 0, 1) := by decide +kernel
theorem dX5_years_63 : decode cX5_years 63 = .ok (.istore 4, 2) := by decide +kernel
theorem dX5_years_65 : decode cX5_years 65 = .ok (.iload 4, 2) := by decide +kernel
theorem dX5_years_67 : decode cX5_years 67 = .ok (.aload_n 0, 1) := by decide +kernel
theorem dX5_years_68 : decode cX5_years 68 = .ok (.getfield 12, 3) := by decide +kernel
theorem dX5_years_71 : decode cX5_years 71 = .ok (.getfield 174, 3) := by decide +kernel
theorem dX5_years_74 : decode cX5_years 74 = .ok (.if_icmp .ge 52, 3) := by decide +kernel
theorem dX5_years_77 : decode cX5_years 77 = .ok (.aload_n 0, 1) := by decide +kernel
theorem dX5_years_78 : decode cX5_years 78 = .ok (.getfield 28, 3) := by decide +kernel
theorem dX5_years_81 : decode cX5_years 81 = .ok (.aload_n 0, 1) := by decide +kernel
theorem dX5_years_82 : decode cX5_years 82 = .ok (.getfield 12, 3) := by decide +kernel
theorem dX5_years_85 : decode cX5_years 85 = .ok (.getfield 183, 3) := by decide +kernel
theorem dX5_years_88 : decode cX5_years 88 = .ok (.iload 4, 2) := by decide +kernel
theorem dX5_years_90 : decode cX5_years 90 = .ok (.iaload, 1) := by decide +kernel
theorem dX5_years_91 : decode cX5_years 91 = .ok (.invokevirtual 167, 3) := by decide +kernel
theorem dX5_years_94 : decode cX5_years 94 = .ok (.ifCond .eq 26, 3) := by decide +kernel
theorem dX5_years_97 : decode cX5_years 97 = .ok (.aload_n 0, 1) := by decide +kernel
theorem dX5_years_98 : decode cX5_years 98 = .ok (.getfield 28, 3) := by decide +kernel
theorem dX5_years_101 : decode cX5_years 101 = .ok (.aload_n 0, 1) := by decide +kernel
theorem dX5_years_102 : decode cX5_years 102 = .ok (.getfield 12, 3) := by decide +kernel
theorem dX5_years_105 : decode cX5_years 105 = .ok (.iload 4, 2) := by decide +kernel
theorem dX5_years_107 : decode cX5_years 107 = .ok (.iload_n 1, 1) := by decide +kernel
theorem dX5_years_108 : decode cX5_years 108 = .ok (.invokevirtual 192, 3) := by decide +kernel
theorem dX5_years_111 : decode cX5_years 111 = .ok (.invokevirtual 167, 3) := by decide +kernel
theorem dX5_years_114 : decode cX5_years 114 = .ok (.ifCond .ne 6, 3) := by decide +kernel
theorem dX5_years_117 : decode cX5_years 117 = .ok (.iinc 2 1, 3) := by decide +kernel
theorem dX5_years_120 : decode cX5_years 120 = .ok (.iinc 4 1, 3) := by decide +kernel
theorem dX5_years_123 : decode cX5_years 123 = .ok (.goto (-58), 3) := by decide +kernel
theorem dX5_years_126 : decode cX5_years 126 = .ok (.iinc 3 1, 3) := by decide +kernel
theorem dX5_years_129 : decode cX5_years 129 = .ok (.goto (-86), 3) := by decide +kernel
theorem dX5_years_132 : decode cX5_years 132 = .ok (.aload_n 0, 1) := by decide +kernel
theorem dX5_years_133 : decode cX5_years 133 = .ok (.getfield 12, 3) := by decide +kernel
theorem dX5_years_136 : decode cX5_years 136 = .ok (.iload_n 1, 1) := by decide +kernel
theorem dX5_years_137 : decode cX5_years 137 = .ok (.invokevirtual 195, 3) := by decide +kernel
theorem dX5_years_140 : decode cX5_years 140 = .ok (.iload_n 2, 1) := by decide +kernel
theorem dX5_years_141 : decode cX5_years 141 = .ok (.ireturn, 1) := by decide +kernel
set_option maxRecDepth 20000 in
theorem ggX5_when_X3_hasTale : GoodIn wsX5_when wsX3_hasTale := goodIn_r _ [8, 9, 84, 85, 86, 87, 88, 89, 90, 91, 92, 93, 94] (by decide +kernel) (by decide +kernel)
set_option maxRecDepth 20000 in
theorem gX5_when_X3_hasTale : GoodIn wsX5_when (wsV RX5 120 RX3 yX3_hasTale wsX3_hasTale) := goodIn_app (goodIn_of _ (by decide +kernel)) ggX5_when_X3_hasTale
set_option maxRecDepth 20000 in
theorem ggX5_when_X3_hasHearer : GoodIn wsX5_when wsX3_hasHearer := goodIn_r _ [13, 14, 84, 85, 86, 87, 88, 89, 90, 91, 92, 93, 94] (by decide +kernel) (by decide +kernel)
set_option maxRecDepth 20000 in
theorem gX5_when_X3_hasHearer : GoodIn wsX5_when (wsV RX5 180 RX3 yX3_hasHearer wsX3_hasHearer) := goodIn_app (goodIn_of _ (by decide +kernel)) ggX5_when_X3_hasHearer
set_option maxRecDepth 20000 in
theorem ggX5_when_X5_found : GoodIn wsX5_when wsX5_found := goodIn_r _ [19, 2, 20, 21, 22, 18, 23, 76, 77, 78, 79, 80, 81, 82, 83] (by decide +kernel) (by decide +kernel)
set_option maxRecDepth 20000 in
theorem gX5_when_X5_found : GoodIn wsX5_when (wsV RX5 64 RX5 yX5_found wsX5_found) := goodIn_app (goodIn_of _ (by decide +kernel)) ggX5_when_X5_found
set_option maxRecDepth 20000 in
theorem ggX5_when_X5_firstYear : GoodIn wsX5_when wsX5_firstYear := goodIn_r _ [27, 28, 1, 29, 30, 31, 32, 33, 34, 35, 36, 37, 38, 39, 40, 41, 7, 42, 43, 44, 45, 46, 47, 48, 49, 50, 51, 52, 53, 54, 55, 56, 57, 58, 59, 60, 61, 62, 63, 64, 65, 66, 67, 68, 69, 70, 71, 72, 73, 74, 75, 76, 77, 78, 79, 80, 81, 82, 83, 95, 96, 97, 98, 99, 100, 101, 84, 85, 86, 87, 88, 89, 90, 91, 92, 93, 94] (by decide +kernel) (by decide +kernel)
set_option maxRecDepth 20000 in
theorem gX5_when_X5_firstYear : GoodIn wsX5_when (wsV RX5 198 RX5 yX5_firstYear wsX5_firstYear) := goodIn_app (goodIn_of _ (by decide +kernel)) ggX5_when_X5_firstYear
theorem dX5_when_0 : decode cX5_when 0 = .ok (.aload_n 0, 1) := by decide +kernel
theorem dX5_when_1 : decode cX5_when 1 = .ok (.getfield 12, 3) := by decide +kernel
theorem dX5_when_4 : decode cX5_when 4 = .ok (.iload_n 1, 1) := by decide +kernel
theorem dX5_when_5 : decode cX5_when 5 = .ok (.invokevirtual 120, 3) := by decide +kernel
theorem dX5_when_8 : decode cX5_when 8 = .ok (.ifCond .eq 14, 3) := by decide +kernel
theorem dX5_when_11 : decode cX5_when 11 = .ok (.aload_n 0, 1) := by decide +kernel
theorem dX5_when_12 : decode cX5_when 12 = .ok (.getfield 12, 3) := by decide +kernel
theorem dX5_when_15 : decode cX5_when 15 = .ok (.iload_n 2, 1) := by decide +kernel
theorem dX5_when_16 : decode cX5_when 16 = .ok (.invokevirtual 180, 3) := by decide +kernel
theorem dX5_when_19 : decode cX5_when 19 = .ok (.ifCond .ne 10, 3) := by decide +kernel
theorem dX5_when_22 : decode cX5_when 22 = .ok (.aload_n 0, 1) := by decide +kernel
theorem dX5_when_23 : decode cX5_when 23 = .ok (.ldc 63, 2) := by decide +kernel
theorem dX5_when_25 : decode cX5_when 25 = .ok (.invokevirtual 64, 3) := by decide +kernel
theorem dX5_when_28 : decode cX5_when 28 = .ok (.ireturn, 1) := by decide +kernel
theorem dX5_when_29 : decode cX5_when 29 = .ok (.aload_n 0, 1) := by decide +kernel
theorem dX5_when_30 : decode cX5_when 30 = .ok (.iload_n 1, 1) := by decide +kernel
theorem dX5_when_31 : decode cX5_when 31 = .ok (.iload_n 2, 1) := by decide +kernel
theorem dX5_when_32 : decode cX5_when 32 = .ok (.iconst 1, 1) := by decide +kernel
theorem dX5_when_33 : decode cX5_when 33 = .ok (.invokevirtual 198, 3) := by decide +kernel
theorem dX5_when_36 : decode cX5_when 36 = .ok (.istore_n 3, 1) := by decide +kernel
theorem dX5_when_37 : decode cX5_when 37 = .ok (.iload_n 3, 1) := by decide +kernel
theorem dX5_when_38 : decode cX5_when 38 = .ok (.bipush 99, 2) := by decide +kernel
theorem dX5_when_40 : decode cX5_when 40 = .ok (.if_icmp .le 12, 3) := by decide +kernel
theorem dX5_when_43 : decode cX5_when 43 = .ok (.aload_n 0, 1) := by decide +kernel
theorem dX5_when_44 : decode cX5_when 44 = .ok (.ldc 129, 2) := by decide +kernel
theorem dX5_when_46 : decode cX5_when 46 = .ok (.invokevirtual 64, 3) := by decide +kernel
theorem dX5_when_49 : decode cX5_when 49 = .ok (.goto 4, 3) := by decide +kernel
theorem dX5_when_52 : decode cX5_when 52 = .ok (.iload_n 3, 1) := by decide +kernel
theorem dX5_when_53 : decode cX5_when 53 = .ok (.ireturn, 1) := by decide +kernel
set_option maxRecDepth 20000 in
theorem ggX5_till_X3_hasTale : GoodIn wsX5_till wsX3_hasTale := goodIn_r _ [7, 8, 83, 84, 85, 86, 87, 88, 89, 90, 91, 92, 93] (by decide +kernel) (by decide +kernel)
set_option maxRecDepth 20000 in
theorem gX5_till_X3_hasTale : GoodIn wsX5_till (wsV RX5 120 RX3 yX3_hasTale wsX3_hasTale) := goodIn_app (goodIn_of _ (by decide +kernel)) ggX5_till_X3_hasTale
set_option maxRecDepth 20000 in
theorem ggX5_till_X3_hasHearer : GoodIn wsX5_till wsX3_hasHearer := goodIn_r _ [12, 13, 83, 84, 85, 86, 87, 88, 89, 90, 91, 92, 93] (by decide +kernel) (by decide +kernel)
set_option maxRecDepth 20000 in
theorem gX5_till_X3_hasHearer : GoodIn wsX5_till (wsV RX5 180 RX3 yX3_hasHearer wsX3_hasHearer) := goodIn_app (goodIn_of _ (by decide +kernel)) ggX5_till_X3_hasHearer
set_option maxRecDepth 20000 in
theorem ggX5_till_X5_found : GoodIn wsX5_till wsX5_found := goodIn_r _ [18, 2, 19, 20, 21, 17, 22, 75, 76, 77, 78, 79, 80, 81, 82] (by decide +kernel) (by decide +kernel)
