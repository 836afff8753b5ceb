theorem dX12_winner_0 : decode cX12_winner 0 = .ok (.aload_n 0, 1) := by decide +kernel
theorem dX12_winner_1 : decode cX12_winner 1 = .ok (.getfield 45, 3) := by decide +kernel
theorem dX12_winner_4 : decode cX12_winner 4 = .ok (.bipush 8, 2) := by decide +kernel
theorem dX12_winner_6 : decode cX12_winner 6 = .ok (.iaload, 1) := by decide +kernel
theorem dX12_winner_7 : decode cX12_winner 7 = .ok (.ifCond .le 15, 3) := by decide +kernel
theorem dX12_winner_10 : decode cX12_winner 10 = .ok (.aload_n 0, 1) := by decide +kernel
theorem dX12_winner_11 : decode cX12_winner 11 = .ok (.getfield 45, 3) := by decide +kernel
theorem dX12_winner_14 : decode cX12_winner 14 = .ok (.bipush 8, 2) := by decide +kernel
theorem dX12_winner_16 : decode cX12_winner 16 = .ok (.iaload, 1) := by decide +kernel
theorem dX12_winner_17 : decode cX12_winner 17 = .ok (.iconst 1, 1) := by decide +kernel
theorem dX12_winner_18 : decode cX12_winner 18 = .ok (.isub, 1) := by decide +kernel
theorem dX12_winner_19 : decode cX12_winner 19 = .ok (.goto 12, 3) := by decide +kernel
theorem dX12_winner_22 : decode cX12_winner 22 = .ok (.iconst 1, 1) := by decide +kernel
theorem dX12_winner_23 : decode cX12_winner 23 = .ok (.aload_n 0, 1) := by decide +kernel
theorem dX12_winner_24 : decode cX12_winner 24 = .ok (.getfield 45, 3) := by decide +kernel
theorem dX12_winner_27 : decode cX12_winner 27 = .ok (.bipush 6, 2) := by decide +kernel
theorem dX12_winner_29 : decode cX12_winner 29 = .ok (.iaload, 1) := by decide +kernel
theorem dX12_winner_30 : decode cX12_winner 30 = .ok (.isub, 1) := by decide +kernel
theorem dX12_winner_31 : decode cX12_winner 31 = .ok (.ireturn, 1) := by decide +kernel
set_option maxRecDepth 20000 in
theorem ggX12_ends_X12_winner : GoodIn wsX12_ends wsX12_winner := goodIn_r _ [7, 2, 8, 9, 10, 11, 12, 13, 14, 15, 16, 17, 18, 19, 20, 21, 22, 23, 24, 25, 26, 27, 28, 29, 30, 31, 32, 33, 34, 35, 36, 37, 38, 39, 40, 41, 42, 43, 44] (by decide +kernel) (by decide +kernel)
set_option maxRecDepth 20000 in
theorem gX12_ends_X12_winner : GoodIn wsX12_ends (wsV RX12 283 RX12 yX12_winner wsX12_winner) := goodIn_app (goodIn_of _ (by decide +kernel)) ggX12_ends_X12_winner
theorem dX12_ends_0 : decode cX12_ends 0 = .ok (.aload_n 0, 1) := by decide +kernel
theorem dX12_ends_1 : decode cX12_ends 1 = .ok (.aload_n 0, 1) := by decide +kernel
theorem dX12_ends_2 : decode cX12_ends 2 = .ok (.invokevirtual 283, 3) := by decide +kernel
theorem dX12_ends_5 : decode cX12_ends 5 = .ok (.putfield 286, 3) := by decide +kernel
theorem dX12_ends_8 : decode cX12_ends 8 = .ok (.aload_n 0, 1) := by decide +kernel
theorem dX12_ends_9 : decode cX12_ends 9 = .ok (.getfield 45, 3) := by decide +kernel
theorem dX12_ends_12 : decode cX12_ends 12 = .ok (.iconst 3, 1) := by decide +kernel
theorem dX12_ends_13 : decode cX12_ends 13 = .ok (.iconst 0, 1) := by decide +kernel
theorem dX12_ends_14 : decode cX12_ends 14 = .ok (.iastore, 1) := by decide +kernel
theorem dX12_ends_15 : decode cX12_ends 15 = .ok (.aload_n 0, 1) := by decide +kernel
theorem dX12_ends_16 : decode cX12_ends 16 = .ok (.getfield 45, 3) := by decide +kernel
theorem dX12_ends_19 : decode cX12_ends 19 = .ok (.bipush 18, 2) := by decide +kernel
theorem dX12_ends_21 : decode cX12_ends 21 = .ok (.aload_n 0, 1) := by decide +kernel
theorem dX12_ends_22 : decode cX12_ends 22 = .ok (.getfield 286, 3) := by decide +kernel
theorem dX12_ends_25 : decode cX12_ends 25 = .ok (.iadd, 1) := by decide +kernel
theorem dX12_ends_26 : decode cX12_ends 26 = .ok (.dup2, 1) := by decide +kernel
theorem dX12_ends_27 : decode cX12_ends 27 = .ok (.iaload, 1) := by decide +kernel
theorem dX12_ends_28 : decode cX12_ends 28 = .ok (.iconst 1, 1) := by decide +kernel
theorem dX12_ends_29 : decode cX12_ends 29 = .ok (.iadd, 1) := by decide +kernel
theorem dX12_ends_30 : decode cX12_ends 30 = .ok (.iastore, 1) := by decide +kernel
theorem dX12_ends_31 : decode cX12_ends 31 = .ok (.aload_n 0, 1) := by decide +kernel
theorem dX12_ends_32 : decode cX12_ends 32 = .ok (.getfield 286, 3) := by decide +kernel
theorem dX12_ends_35 : decode cX12_ends 35 = .ok (.ireturn, 1) := by decide +kernel
set_option maxRecDepth 20000 in
theorem ggX12_looks_X12_canDo : GoodIn wsX12_looks wsX12_canDo := goodIn_r _ [5, 6, 7, 8, 9, 4, 10, 11, 12, 13, 14, 24, 25, 26, 27, 28, 29, 30, 31, 32, 33, 34, 35, 36, 37, 38, 39, 40, 41, 42, 43, 44, 45, 46, 47, 48, 49, 50, 51, 52, 53, 54, 55, 56, 57, 58, 59, 60] (by decide +kernel) (by decide +kernel)
set_option maxRecDepth 20000 in
theorem gX12_looks_X12_canDo : GoodIn wsX12_looks (wsV RX12 289 RX12 yX12_canDo wsX12_canDo) := goodIn_app (goodIn_of _ (by decide +kernel)) ggX12_looks_X12_canDo
set_option maxRecDepth 20000 in
theorem ggX12_looks_X12_ends : GoodIn wsX12_looks wsX12_ends := goodIn_r _ [18, 19, 6, 20, 21, 22, 4, 23, 24, 25, 26, 27, 28, 29, 30, 31, 32, 33, 34, 35, 36, 37, 38, 39, 40, 41, 42, 43, 44, 45, 46, 47, 48, 49, 50, 51, 52, 53, 54, 55, 56, 57, 58, 59, 60] (by decide +kernel) (by decide +kernel)
set_option maxRecDepth 20000 in
theorem gX12_looks_X12_ends : GoodIn wsX12_looks (wsV RX12 292 RX12 yX12_ends wsX12_ends) := goodIn_app (goodIn_of _ (by decide +kernel)) ggX12_looks_X12_ends
theorem dX12_looks_0 : decode cX12_looks 0 = .ok (.aload_n 0, 1) := by decide +kernel
theorem dX12_looks_1 : decode cX12_looks 1 = .ok (.invokevirtual 289, 3) := by decide +kernel
theorem dX12_looks_4 : decode cX12_looks 4 = .ok (.ifCond .ne 8, 3) := by decide +kernel
theorem dX12_looks_7 : decode cX12_looks 7 = .ok (.aload_n 0, 1) := by decide +kernel
theorem dX12_looks_8 : decode cX12_looks 8 = .ok (.invokevirtual 292, 3) := by decide +kernel
theorem dX12_looks_11 : decode cX12_looks 11 = .ok (.pop, 1) := by decide +kernel
theorem dX12_looks_12 : decode cX12_looks 12 = .ok (.return_, 1) := by decide +kernel
set_option maxRecDepth 20000 in
theorem ggX12_says_X12_looks : GoodIn wsX12_says wsX12_looks := goodIn_r _ [6, 7, 8, 9, 5, 10, 1, 11, 12, 13, 14, 15, 16, 17, 18, 19, 20, 21, 22, 23, 24, 25, 26, 27, 28, 29, 30, 31, 32, 33, 34, 35, 36, 37, 38, 39, 40, 41, 42, 43, 44, 45, 46, 47, 48, 49, 50, 51, 52, 53, 54, 55, 56, 57, 58, 59, 60, 61, 62, 63, 64] (by decide +kernel) (by decide +kernel)
set_option maxRecDepth 20000 in
theorem gX12_says_X12_looks : GoodIn wsX12_says (wsV RX12 295 RX12 yX12_looks wsX12_looks) := goodIn_app (goodIn_of _ (by decide +kernel)) ggX12_says_X12_looks
theorem dX12_says_0 : decode cX12_says 0 = .ok (.aload_n 0, 1) := by decide +kernel
theorem dX12_says_1 : decode cX12_says 1 = .ok (.getfield 45, 3) := by decide +kernel
theorem dX12_says_4 : decode cX12_says 4 = .ok (.bipush 6, 2) := by decide +kernel
theorem dX12_says_6 : decode cX12_says 6 = .ok (.iaload, 1) := by decide +kernel
theorem dX12_says_7 : decode cX12_says 7 = .ok (.istore_n 2, 1) := by decide +kernel
theorem dX12_says_8 : decode cX12_says 8 = .ok (.aload_n 0, 1) := by decide +kernel
theorem dX12_says_9 : decode cX12_says 9 = .ok (.getfield 45, 3) := by decide +kernel
theorem dX12_says_12 : decode cX12_says 12 = .ok (.iconst 5, 1) := by decide +kernel
theorem dX12_says_13 : decode cX12_says 13 = .ok (.dup2, 1) := by decide +kernel
theorem dX12_says_14 : decode cX12_says 14 = .ok (.iaload, 1) := by decide +kernel
theorem dX12_says_15 : decode cX12_says 15 = .ok (.aload_n 0, 1) := by decide +kernel
theorem dX12_says_16 : decode cX12_says 16 = .ok (.getfield 45, 3) := by decide +kernel
theorem dX12_says_19 : decode cX12_says 19 = .ok (.bipush 28, 2) := by decide +kernel
theorem dX12_says_21 : decode cX12_says 21 = .ok (.iload_n 1, 1) := by decide +kernel
theorem dX12_says_22 : decode cX12_says 22 = .ok (.iadd, 1) := by decide +kernel
theorem dX12_says_23 : decode cX12_says 23 = .ok (.iaload, 1) := by decide +kernel
theorem dX12_says_24 : decode cX12_says 24 = .ok (.aload_n 0, 1) := by decide +kernel
theorem dX12_says_25 : decode cX12_says 25 = .ok (.getfield 45, 3) := by decide +kernel
theorem dX12_says_28 : decode cX12_says 28 = .ok (.bipush 14, 2) := by decide +kernel
theorem dX12_says_30 : decode cX12_says 30 = .ok (.iload_n 2, 1) := by decide +kernel
theorem dX12_says_31 : decode cX12_says 31 = .ok (.iadd, 1) := by decide +kernel
theorem dX12_says_32 : decode cX12_says 32 = .ok (.iaload, 1) := by decide +kernel
theorem dX12_says_33 : decode cX12_says 33 = .ok (.iload_n 1, 1) := by decide +kernel
theorem dX12_says_34 : decode cX12_says 34 = .ok (.if_icmp .ne 12, 3) := by decide +kernel
theorem dX12_says_37 : decode cX12_says 37 = .ok (.aload_n 0, 1) := by decide +kernel
theorem dX12_says_38 : decode cX12_says 38 = .ok (.getfield 45, 3) := by decide +kernel
theorem dX12_says_41 : decode cX12_says 41 = .ok (.iconst 2, 1) := by decide +kernel
theorem dX12_says_42 : decode cX12_says 42 = .ok (.iaload, 1) := by decide +kernel
theorem dX12_says_43 : decode cX12_says 43 = .ok (.goto 4, 3) := by decide +kernel
theorem dX12_says_46 : decode cX12_says 46 = .ok (.iconst 0, 1) := by decide +kernel
theorem dX12_says_47 : decode cX12_says 47 = .ok (.iadd, 1) := by decide +kernel
theorem dX12_says_48 : decode cX12_says 48 = .ok (.isub, 1) := by decide +kernel
theorem dX12_says_49 : decode cX12_says 49 = .ok (.iastore, 1) := by decide +kernel
theorem dX12_says_50 : decode cX12_says 50 = .ok (.aload_n 0, 1) := by decide +kernel
theorem dX12_says_51 : decode cX12_says 51 = .ok (.getfield 45, 3) := by decide +kernel
theorem dX12_says_54 : decode cX12_says 54 = .ok (.bipush 14, 2) := by decide +kernel
theorem dX12_says_56 : decode cX12_says 56 = .ok (.iload_n 2, 1) := by decide +kernel
theorem dX12_says_57 : decode cX12_says 57 = .ok (.iadd, 1) := by decide +kernel
theorem dX12_says_58 : decode cX12_says 58 = .ok (.iload_n 1, 1) := by decide +kernel
theorem dX12_says_59 : decode cX12_says 59 = .ok (.iastore, 1) := by decide +kernel
theorem dX12_says_60 : decode cX12_says 60 = .ok (.aload_n 0, 1) := by decide +kernel
theorem dX12_says_61 : decode cX12_says 61 = .ok (.getfield 45, 3) := by decide +kernel
theorem dX12_says_64 : decode cX12_says 64 = .ok (.bipush 16, 2) := by decide +kernel
theorem dX12_says_66 : decode cX12_says 66 = .ok (.iload_n 2, 1) := by decide +kernel
theorem dX12_says_67 : decode cX12_says 67 = .ok (.iadd, 1) := by decide +kernel
theorem dX12_says_68 : decode cX12_says 68 = .ok (.dup2, 1) := by decide +kernel
theorem dX12_says_69 : decode cX12_says 69 = .ok (.iaload, 1) := by decide +kernel
theorem dX12_says_70 : decode cX12_says 70 = .ok (.iconst 1, 1) := by decide +kernel
theorem dX12_says_71 : decode cX12_says 71 = .ok (.iadd, 1) := by decide +kernel
theorem dX12_says_72 : decode cX12_says 72 = .ok (.iastore, 1) := by decide +kernel
theorem dX12_says_73 : decode cX12_says 73 = .ok (.aload_n 0, 1) := by decide +kernel
theorem dX12_says_74 : decode cX12_says 74 = .ok (.getfield 45, 3) := by decide +kernel
theorem dX12_says_77 : decode cX12_says 77 = .ok (.bipush 8, 2) := by decide +kernel
theorem dX12_says_79 : decode cX12_says 79 = .ok (.iload_n 2, 1) := by decide +kernel
theorem dX12_says_80 : decode cX12_says 80 = .ok (.iconst 1, 1) := by decide +kernel
theorem dX12_says_81 : decode cX12_says 81 = .ok (.iadd, 1) := by decide +kernel
theorem dX12_says_82 : decode cX12_says 82 = .ok (.iastore, 1) := by decide +kernel
theorem dX12_says_83 : decode cX12_says 83 = .ok (.aload_n 0, 1) := by decide +kernel
theorem dX12_says_84 : decode cX12_says 84 = .ok (.getfield 45, 3) := by decide +kernel
theorem dX12_says_87 : decode cX12_says 87 = .ok (.bipush 6, 2) := by decide +kernel
theorem dX12_says_89 : decode cX12_says 89 = .ok (.iconst 1, 1) := by decide +kernel
theorem dX12_says_90 : decode cX12_says 90 = .ok (.iload_n 2, 1) := by decide +kernel
theorem dX12_says_91 : decode cX12_says 91 = .ok (.isub, 1) := by decide +kernel
theorem dX12_says_92 : decode cX12_says 92 = .ok (.iastore, 1) := by decide +kernel
theorem dX12_says_93 : decode cX12_says 93 = .ok (.aload_n 0, 1) := by decide +kernel
theorem dX12_says_94 : decode cX12_says 94 = .ok (.getfield 45, 3) := by decide +kernel
theorem dX12_says_97 : decode cX12_says 97 = .ok (.bipush 7, 2) := by decide +kernel
theorem dX12_says_99 : decode cX12_says 99 = .ok (.dup2, 1) := by decide +kernel
theorem dX12_says_100 : decode cX12_says 100 = .ok (.iaload, 1) := by decide +kernel
theorem dX12_says_101 : decode cX12_says 101 = .ok (.iconst 1, 1) := by decide +kernel
theorem dX12_says_102 : decode cX12_says 102 = .ok (.iadd, 1) := by decide +kernel
theorem dX12_says_103 : decode cX12_says 103 = .ok (.iastore, 1) := by decide +kernel
theorem dX12_says_104 : decode cX12_says 104 = .ok (.aload_n 0, 1) := by decide +kernel
theorem dX12_says_105 : decode cX12_says 105 = .ok (.invokevirtual 295, 3) := by decide +kernel
theorem dX12_says_108 : decode cX12_says 108 = .ok (.return_, 1) := by decide +kernel
set_option maxRecDepth 20000 in
theorem ggX12_throwsOne_X12_looks : GoodIn wsX12_throwsOne wsX12_looks := goodIn_r _ [6, 7, 8, 9, 5, 10, 1, 11, 12, 13, 14, 15, 16, 17, 18, 19, 20, 21, 22, 23, 24, 25, 26, 27, 28, 29, 30, 31, 32, 33, 34, 35, 36, 37, 38, 39, 40, 41, 42, 43, 44, 45, 46, 47, 48, 49, 50, 51, 52, 53, 54, 55, 56, 57, 58, 59, 60, 61, 62, 63, 64] (by decide +kernel) (by decide +kernel)
set_option maxRecDepth 20000 in
theorem gX12_throwsOne_X12_looks : GoodIn wsX12_throwsOne (wsV RX12 295 RX12 yX12_looks wsX12_looks) := goodIn_app (goodIn_of _ (by decide +kernel)) ggX12_throwsOne_X12_looks
theorem dX12_throwsOne_0 : decode cX12_throwsOne 0 = .ok (.aload_n 0, 1) := by decide +kernel
theorem dX12_throwsOne_1 : decode cX12_throwsOne 1 = .ok (.getfield 45, 3) := by decide +kernel
theorem dX12_throwsOne_4 : decode cX12_throwsOne 4 = .ok (.bipush 12, 2) := by decide +kernel
theorem dX12_throwsOne_6 : decode cX12_throwsOne 6 = .ok (.aload_n 0, 1) := by decide +kernel
theorem dX12_throwsOne_7 : decode cX12_throwsOne 7 = .ok (.getfield 45, 3) := by decide +kernel
theorem dX12_throwsOne_10 : decode cX12_throwsOne 10 = .ok (.bipush 6, 2) := by decide +kernel
theorem dX12_throwsOne_12 : decode cX12_throwsOne 12 = .ok (.iaload, 1) := by decide +kernel
theorem dX12_throwsOne_13 : decode cX12_throwsOne 13 = .ok (.iadd, 1) := by decide +kernel
theorem dX12_throwsOne_14 : decode cX12_throwsOne 14 = .ok (.dup2, 1) := by decide +kernel
theorem dX12_throwsOne_15 : decode cX12_throwsOne 15 = .ok (.iaload, 1) := by decide +kernel
theorem dX12_throwsOne_16 : decode cX12_throwsOne 16 = .ok (.iconst 1, 1) := by decide +kernel
theorem dX12_throwsOne_17 : decode cX12_throwsOne 17 = .ok (.isub, 1) := by decide +kernel
theorem dX12_throwsOne_18 : decode cX12_throwsOne 18 = .ok (.iastore, 1) := by decide +kernel
theorem dX12_throwsOne_19 : decode cX12_throwsOne 19 = .ok (.aload_n 0, 1) := by decide +kernel
theorem dX12_throwsOne_20 : decode cX12_throwsOne 20 = .ok (.getfield 45, 3) := by decide +kernel
theorem dX12_throwsOne_23 : decode cX12_throwsOne 23 = .ok (.bipush 9, 2) := by decide +kernel
theorem dX12_throwsOne_25 : decode cX12_throwsOne 25 = .ok (.dup2, 1) := by decide +kernel
theorem dX12_throwsOne_26 : decode cX12_throwsOne 26 = .ok (.iaload, 1) := by decide +kernel
theorem dX12_throwsOne_27 : decode cX12_throwsOne 27 = .ok (.iconst 1, 1) := by decide +kernel
theorem dX12_throwsOne_28 : decode cX12_throwsOne 28 = .ok (.iadd, 1) := by decide +kernel
theorem dX12_throwsOne_29 : decode cX12_throwsOne 29 = .ok (.iastore, 1) := by decide +kernel
theorem dX12_throwsOne_30 : decode cX12_throwsOne 30 = .ok (.aload_n 0, 1) := by decide +kernel
theorem dX12_throwsOne_31 : decode cX12_throwsOne 31 = .ok (.getfield 45, 3) := by decide +kernel
theorem dX12_throwsOne_34 : decode cX12_throwsOne 34 = .ok (.iconst 5, 1) := by decide +kernel
theorem dX12_throwsOne_35 : decode cX12_throwsOne 35 = .ok (.dup2, 1) := by decide +kernel
theorem dX12_throwsOne_36 : decode cX12_throwsOne 36 = .ok (.iaload, 1) := by decide +kernel
theorem dX12_throwsOne_37 : decode cX12_throwsOne 37 = .ok (.aload_n 0, 1) := by decide +kernel
theorem dX12_throwsOne_38 : decode cX12_throwsOne 38 = .ok (.getfield 45, 3) := by decide +kernel
theorem dX12_throwsOne_41 : decode cX12_throwsOne 41 = .ok (.iconst 4, 1) := by decide +kernel
theorem dX12_throwsOne_42 : decode cX12_throwsOne 42 = .ok (.iaload, 1) := by decide +kernel
theorem dX12_throwsOne_43 : decode cX12_throwsOne 43 = .ok (.iadd, 1) := by decide +kernel
theorem dX12_throwsOne_44 : decode cX12_throwsOne 44 = .ok (.iastore, 1) := by decide +kernel
theorem dX12_throwsOne_45 : decode cX12_throwsOne 45 = .ok (.aload_n 0, 1) := by decide +kernel
theorem dX12_throwsOne_46 : decode cX12_throwsOne 46 = .ok (.getfield 45, 3) := by decide +kernel
theorem dX12_throwsOne_49 : decode cX12_throwsOne 49 = .ok (.bipush 7, 2) := by decide +kernel
theorem dX12_throwsOne_51 : decode cX12_throwsOne 51 = .ok (.dup2, 1) := by decide +kernel
theorem dX12_throwsOne_52 : decode cX12_throwsOne 52 = .ok (.iaload, 1) := by decide +kernel
theorem dX12_throwsOne_53 : decode cX12_throwsOne 53 = .ok (.iconst 1, 1) := by decide +kernel
theorem dX12_throwsOne_54 : decode cX12_throwsOne 54 = .ok (.iadd, 1) := by decide +kernel
theorem dX12_throwsOne_55 : decode cX12_throwsOne 55 = .ok (.iastore, 1) := by decide +kernel
theorem dX12_throwsOne_56 : decode cX12_throwsOne 56 = .ok (.aload_n 0, 1) := by decide +kernel
theorem dX12_throwsOne_57 : decode cX12_throwsOne 57 = .ok (.invokevirtual 295, 3) := by decide +kernel
theorem dX12_throwsOne_60 : decode cX12_throwsOne 60 = .ok (.return_, 1) := by decide +kernel
theorem dX12_begins_0 : decode cX12_begins 0 = .ok (.aload_n 0, 1) := by decide +kernel
theorem dX12_begins_1 : decode cX12_begins 1 = .ok (.getfield 45, 3) := by decide +kernel
theorem dX12_begins_4 : decode cX12_begins 4 = .ok (.iconst 3, 1) := by decide +kernel
theorem dX12_begins_5 : decode cX12_begins 5 = .ok (.iconst 1, 1) := by decide +kernel
theorem dX12_begins_6 : decode cX12_begins 6 = .ok (.iastore, 1) := by decide +kernel
theorem dX12_begins_7 : decode cX12_begins 7 = .ok (.aload_n 0, 1) := by decide +kernel
theorem dX12_begins_8 : decode cX12_begins 8 = .ok (.getfield 45, 3) := by decide +kernel
theorem dX12_begins_11 : decode cX12_begins 11 = .ok (.iconst 4, 1) := by decide +kernel
theorem dX12_begins_12 : decode cX12_begins 12 = .ok (.iload_n 1, 1) := by decide +kernel
theorem dX12_begins_13 : decode cX12_begins 13 = .ok (.iastore, 1) := by decide +kernel
theorem dX12_begins_14 : decode cX12_begins 14 = .ok (.aload_n 0, 1) := by decide +kernel
theorem dX12_begins_15 : decode cX12_begins 15 = .ok (.getfield 45, 3) := by decide +kernel
theorem dX12_begins_18 : decode cX12_begins 18 = .ok (.iconst 5, 1) := by decide +kernel
theorem dX12_begins_19 : decode cX12_begins 19 = .ok (.iload_n 1, 1) := by decide +kernel
theorem dX12_begins_20 : decode cX12_begins 20 = .ok (.iastore, 1) := by decide +kernel
theorem dX12_begins_21 : decode cX12_begins 21 = .ok (.aload_n 0, 1) := by decide +kernel
theorem dX12_begins_22 : decode cX12_begins 22 = .ok (.getfield 45, 3) := by decide +kernel
theorem dX12_begins_25 : decode cX12_begins 25 = .ok (.bipush 6, 2) := by decide +kernel
theorem dX12_begins_27 : decode cX12_begins 27 = .ok (.iload_n 2, 1) := by decide +kernel
theorem dX12_begins_28 : decode cX12_begins 28 = .ok (.iastore, 1) := by decide +kernel
theorem dX12_begins_29 : decode cX12_begins 29 = .ok (.aload_n 0, 1) := by decide +kernel
theorem dX12_begins_30 : decode cX12_begins 30 = .ok (.getfield 45, 3) := by decide +kernel
theorem dX12_begins_33 : decode cX12_begins 33 = .ok (.bipush 7, 2) := by decide +kernel
theorem dX12_begins_35 : decode cX12_begins 35 = .ok (.iconst 0, 1) := by decide +kernel
theorem dX12_begins_36 : decode cX12_begins 36 = .ok (.iastore, 1) := by decide +kernel
theorem dX12_begins_37 : decode cX12_begins 37 = .ok (.aload_n 0, 1) := by decide +kernel
theorem dX12_begins_38 : decode cX12_begins 38 = .ok (.getfield 45, 3) := by decide +kernel
theorem dX12_begins_41 : decode cX12_begins 41 = .ok (.bipush 8, 2) := by decide +kernel
theorem dX12_begins_43 : decode cX12_begins 43 = .ok (.iconst 0, 1) := by decide +kernel
theorem dX12_begins_44 : decode cX12_begins 44 = .ok (.iastore, 1) := by decide +kernel
theorem dX12_begins_45 : decode cX12_begins 45 = .ok (.iconst 0, 1) := by decide +kernel
theorem dX12_begins_46 : decode cX12_begins 46 = .ok (.istore_n 3, 1) := by decide +kernel
theorem dX12_begins_47 : decode cX12_begins 47 = .ok (.iload_n 3, 1) := by decide +kernel
theorem dX12_begins_48 : decode cX12_begins 48 = .ok (.iconst 2, 1) := by decide +kernel
theorem dX12_begins_49 : decode cX12_begins 49 = .ok (.if_icmp .ge 30, 3) := by decide +kernel
theorem dX12_begins_52 : decode cX12_begins 52 = .ok (.aload_n 0, 1) := by decide +kernel
theorem dX12_begins_53 : decode cX12_begins 53 = .ok (.getfield 45, 3) := by decide +kernel
theorem dX12_begins_56 : decode cX12_begins 56 = .ok (.bipush 14, 2) := by decide +kernel
theorem dX12_begins_58 : decode cX12_begins 58 = .ok (.iload_n 3, 1) := by decide +kernel
theorem dX12_begins_59 : decode cX12_begins 59 = .ok (.iadd, 1) := by decide +kernel
theorem dX12_begins_60 : decode cX12_begins 60 = .ok (.bipush 9, 2) := by decide +kernel
theorem dX12_begins_62 : decode cX12_begins 62 = .ok (.iastore, 1) := by decide +kernel
theorem dX12_begins_63 : decode cX12_begins 63 = .ok (.aload_n 0, 1) := by decide +kernel
theorem dX12_begins_64 : decode cX12_begins 64 = .ok (.getfield 45, 3) := by decide +kernel
theorem dX12_begins_67 : decode cX12_begins 67 = .ok (.bipush 16, 2) := by decide +kernel
theorem dX12_begins_69 : decode cX12_begins 69 = .ok (.iload_n 3, 1) := by decide +kernel
theorem dX12_begins_70 : decode cX12_begins 70 = .ok (.iadd, 1) := by decide +kernel
theorem dX12_begins_71 : decode cX12_begins 71 = .ok (.iconst 0, 1) := by decide +kernel
theorem dX12_begins_72 : decode cX12_begins 72 = .ok (.iastore, 1) := by decide +kernel
theorem dX12_begins_73 : decode cX12_begins 73 = .ok (.iinc 3 1, 3) := by decide +kernel
theorem dX12_begins_76 : decode cX12_begins 76 = .ok (.goto (-29), 3) := by decide +kernel
theorem dX12_begins_79 : decode cX12_begins 79 = .ok (.return_, 1) := by decide +kernel
set_option maxRecDepth 20000 in
theorem ggX12_begin_X12_in : GoodIn wsX12_begin wsX12_in := goodIn_r _ [5] (by decide +kernel) (by decide +kernel)
set_option maxRecDepth 20000 in
theorem gX12_begin_X12_in : GoodIn wsX12_begin (va_wsS RX12 115 yX12_in wsX12_in) := goodIn_app (goodIn_of _ (by decide +kernel)) ggX12_begin_X12_in
set_option maxRecDepth 20000 in
theorem ggX12_begin_X12_isSide : GoodIn wsX12_begin wsX12_isSide := goodIn_r _ [8] (by decide +kernel) (by decide +kernel)
set_option maxRecDepth 20000 in
theorem gX12_begin_X12_isSide : GoodIn wsX12_begin (va_wsS RX12 298 yX12_isSide wsX12_isSide) := goodIn_app (goodIn_of _ (by decide +kernel)) ggX12_begin_X12_isSide
set_option maxRecDepth 20000 in
theorem ggX12_begin_X12_verseOf : GoodIn wsX12_begin wsX12_verseOf := goodIn_r _ [12, 1, 42, 43, 44, 45, 46, 47, 48, 49, 50, 51, 52, 53, 54, 55, 56, 57, 58, 59, 60, 61, 62, 63, 64, 65, 66, 67, 68, 69, 70, 71, 72, 73, 74, 75, 76, 77, 78] (by decide +kernel) (by decide +kernel)
set_option maxRecDepth 20000 in
theorem gX12_begin_X12_verseOf : GoodIn wsX12_begin (wsV RX12 301 RX12 yX12_verseOf wsX12_verseOf) := goodIn_app (goodIn_of _ (by decide +kernel)) ggX12_begin_X12_verseOf
set_option maxRecDepth 20000 in
theorem ggX12_begin_X12_begins : GoodIn wsX12_begin wsX12_begins := goodIn_r _ [16, 1, 42, 43, 44, 45, 46, 47, 48, 49, 50, 51, 52, 53, 54, 55, 56, 57, 58, 59, 60, 61, 62, 63, 64, 65, 66, 67, 68, 69, 70, 71, 72, 73, 74, 75, 76, 77, 78] (by decide +kernel) (by decide +kernel)
set_option maxRecDepth 20000 in
theorem gX12_begin_X12_begins : GoodIn wsX12_begin (wsV RX12 304 RX12 yX12_begins wsX12_begins) := goodIn_app (goodIn_of _ (by decide +kernel)) ggX12_begin_X12_begins
set_option maxRecDepth 20000 in
theorem ggX12_begin_X12_looks : GoodIn wsX12_begin wsX12_looks := goodIn_r _ [20, 21, 22, 23, 4, 24, 1, 25, 26, 27, 28, 29, 30, 31, 32, 33, 34, 35, 36, 37, 38, 39, 40, 41, 42, 43, 44, 45, 46, 47, 48, 49, 50, 51, 52, 53, 54, 55, 56, 57, 58, 59, 60, 61, 62, 63, 64, 65, 66, 67, 68, 69, 70, 71, 72, 73, 74, 75, 76, 77, 78] (by decide +kernel) (by decide +kernel)
set_option maxRecDepth 20000 in
theorem gX12_begin_X12_looks : GoodIn wsX12_begin (wsV RX12 295 RX12 yX12_looks wsX12_looks) := goodIn_app (goodIn_of _ (by decide +kernel)) ggX12_begin_X12_looks
theorem dX12_begin_0 : decode cX12_begin 0 = .ok (.iload_n 1, 1) := by decide +kernel
theorem dX12_begin_1 : decode cX12_begin 1 = .ok (.i2l, 1) := by decide +kernel
theorem dX12_begin_2 : decode cX12_begin 2 = .ok (.lconst 0, 1) := by decide +kernel
theorem dX12_begin_3 : decode cX12_begin 3 = .ok (.aload_n 0, 1) := by decide +kernel
theorem dX12_begin_4 : decode cX12_begin 4 = .ok (.getfield 45, 3) := by decide +kernel
theorem dX12_begin_7 : decode cX12_begin 7 = .ok (.iconst 0, 1) := by decide +kernel
theorem dX12_begin_8 : decode cX12_begin 8 = .ok (.iaload, 1) := by decide +kernel
theorem dX12_begin_9 : decode cX12_begin 9 = .ok (.iconst 1, 1) := by decide +kernel
theorem dX12_begin_10 : decode cX12_begin 10 = .ok (.isub, 1) := by decide +kernel
theorem dX12_begin_11 : decode cX12_begin 11 = .ok (.i2l, 1) := by decide +kernel
theorem dX12_begin_12 : decode cX12_begin 12 = .ok (.invokestatic 115, 3) := by decide +kernel
theorem dX12_begin_15 : decode cX12_begin 15 = .ok (.ifCond .eq 10, 3) := by decide +kernel
theorem dX12_begin_18 : decode cX12_begin 18 = .ok (.iload_n 2, 1) := by decide +kernel
theorem dX12_begin_19 : decode cX12_begin 19 = .ok (.invokestatic 298, 3) := by decide +kernel
theorem dX12_begin_22 : decode cX12_begin 22 = .ok (.ifCond .ne 5, 3) := by decide +kernel
theorem dX12_begin_25 : decode cX12_begin 25 = .ok (.iconst (-1), 1) := by decide +kernel
theorem dX12_begin_26 : decode cX12_begin 26 = .ok (.ireturn, 1) := by decide +kernel
theorem dX12_begin_27 : decode cX12_begin 27 = .ok (.aload_n 0, 1) := by decide +kernel
theorem dX12_begin_28 : decode cX12_begin 28 = .ok (.aload_n 0, 1) := by decide +kernel
theorem dX12_begin_29 : decode cX12_begin 29 = .ok (.iload_n 1, 1) := by decide +kernel
theorem dX12_begin_30 : decode cX12_begin 30 = .ok (.invokevirtual 301, 3) := by decide +kernel
theorem dX12_begin_33 : decode cX12_begin 33 = .ok (.iload_n 2, 1) := by decide +kernel
theorem dX12_begin_34 : decode cX12_begin 34 = .ok (.invokevirtual 304, 3) := by decide +kernel
theorem dX12_begin_37 : decode cX12_begin 37 = .ok (.aload_n 0, 1) := by decide +kernel
theorem dX12_begin_38 : decode cX12_begin 38 = .ok (.invokevirtual 295, 3) := by decide +kernel
theorem dX12_begin_41 : decode cX12_begin 41 = .ok (.aload_n 0, 1) := by decide +kernel
theorem dX12_begin_42 : decode cX12_begin 42 = .ok (.getfield 45, 3) := by decide +kernel
theorem dX12_begin_45 : decode cX12_begin 45 = .ok (.iconst 5, 1) := by decide +kernel
theorem dX12_begin_46 : decode cX12_begin 46 = .ok (.iaload, 1) := by decide +kernel
theorem dX12_begin_47 : decode cX12_begin 47 = .ok (.ireturn, 1) := by decide +kernel
set_option maxRecDepth 20000 in
theorem ggX12_speak_X12_in : GoodIn wsX12_speak wsX12_in := goodIn_r _ [5] (by decide +kernel) (by decide +kernel)
set_option maxRecDepth 20000 in
theorem gX12_speak_X12_in : GoodIn wsX12_speak (va_wsS RX12 115 yX12_in wsX12_in) := goodIn_app (goodIn_of _ (by decide +kernel)) ggX12_speak_X12_in
set_option maxRecDepth 20000 in
theorem ggX12_speak_X12_goesOn : GoodIn wsX12_speak wsX12_goesOn := goodIn_r _ [9, 1, 39, 40, 41, 42, 43, 44, 45, 46, 47, 48, 49, 50, 51, 52, 53, 54, 55, 56, 57, 58, 59, 60, 61, 62, 63, 64, 65, 66, 67, 68, 69, 70, 71, 72, 73, 74, 75] (by decide +kernel) (by decide +kernel)
set_option maxRecDepth 20000 in
theorem gX12_speak_X12_goesOn : GoodIn wsX12_speak (wsV RX12 307 RX12 yX12_goesOn wsX12_goesOn) := goodIn_app (goodIn_of _ (by decide +kernel)) ggX12_speak_X12_goesOn
set_option maxRecDepth 20000 in
theorem ggX12_speak_X12_canSay : GoodIn wsX12_speak wsX12_canSay := goodIn_r _ [13, 1, 39, 40, 41, 42, 43, 44, 45, 46, 47, 48, 49, 50, 51, 52, 53, 54, 55, 56, 57, 58, 59, 60, 61, 62, 63, 64, 65, 66, 67, 68, 69, 70, 71, 72, 73, 74, 75] (by decide +kernel) (by decide +kernel)
set_option maxRecDepth 20000 in
theorem gX12_speak_X12_canSay : GoodIn wsX12_speak (wsV RX12 277 RX12 yX12_canSay wsX12_canSay) := goodIn_app (goodIn_of _ (by decide +kernel)) ggX12_speak_X12_canSay
set_option maxRecDepth 20000 in
theorem ggX12_speak_X12_says : GoodIn wsX12_speak wsX12_says := goodIn_r _ [17, 1, 18, 19, 20, 4, 21, 22, 23, 24, 25, 10, 11, 12, 13, 26, 27, 28, 29, 30, 31, 32, 33, 34, 35, 36, 37, 38, 39, 40, 41, 42, 43, 44, 45, 46, 47, 48, 49, 50, 51, 52, 53, 54, 55, 56, 57, 58, 59, 60, 61, 62, 63, 64, 65, 66, 67, 68, 69, 70, 71, 72, 73, 74, 75] (by decide +kernel) (by decide +kernel)
set_option maxRecDepth 20000 in
theorem gX12_speak_X12_says : GoodIn wsX12_speak (wsV RX12 310 RX12 yX12_says wsX12_says) := goodIn_app (goodIn_of _ (by decide +kernel)) ggX12_speak_X12_says
theorem dX12_speak_0 : decode cX12_speak 0 = .ok (.iload_n 1, 1) := by decide +kernel
theorem dX12_speak_1 : decode cX12_speak 1 = .ok (.i2l, 1) := by decide +kernel
theorem dX12_speak_2 : decode cX12_speak 2 = .ok (.lconst 0, 1) := by decide +kernel
theorem dX12_speak_3 : decode cX12_speak 3 = .ok (.aload_n 0, 1) := by decide +kernel
theorem dX12_speak_4 : decode cX12_speak 4 = .ok (.getfield 45, 3) := by decide +kernel
theorem dX12_speak_7 : decode cX12_speak 7 = .ok (.iconst 1, 1) := by decide +kernel
theorem dX12_speak_8 : decode cX12_speak 8 = .ok (.iaload, 1) := by decide +kernel
theorem dX12_speak_9 : decode cX12_speak 9 = .ok (.iconst 1, 1) := by decide +kernel
theorem dX12_speak_10 : decode cX12_speak 10 = .ok (.isub, 1) := by decide +kernel
theorem dX12_speak_11 : decode cX12_speak 11 = .ok (.i2l, 1) := by decide +kernel
theorem dX12_speak_12 : decode cX12_speak 12 = .ok (.invokestatic 115, 3) := by decide +kernel
theorem dX12_speak_15 : decode cX12_speak 15 = .ok (.ifCond .ne 5, 3) := by decide +kernel
theorem dX12_speak_18 : decode cX12_speak 18 = .ok (.iconst (-1), 1) := by decide +kernel
theorem dX12_speak_19 : decode cX12_speak 19 = .ok (.ireturn, 1) := by decide +kernel
theorem dX12_speak_20 : decode cX12_speak 20 = .ok (.aload_n 0, 1) := by decide +kernel
theorem dX12_speak_21 : decode cX12_speak 21 = .ok (.invokevirtual 307, 3) := by decide +kernel
theorem dX12_speak_24 : decode cX12_speak 24 = .ok (.ifCond .eq 11, 3) := by decide +kernel
theorem dX12_speak_27 : decode cX12_speak 27 = .ok (.aload_n 0, 1) := by decide +kernel
theorem dX12_speak_28 : decode cX12_speak 28 = .ok (.iload_n 1, 1) := by decide +kernel
theorem dX12_speak_29 : decode cX12_speak 29 = .ok (.invokevirtual 277, 3) := by decide +kernel
theorem dX12_speak_32 : decode cX12_speak 32 = .ok (.ifCond .ne 6, 3) := by decide +kernel
theorem dX12_speak_35 : decode cX12_speak 35 = .ok (.bipush (-2), 2) := by decide +kernel
theorem dX12_speak_37 : decode cX12_speak 37 = .ok (.ireturn, 1) := by decide +kernel
theorem dX12_speak_38 : decode cX12_speak 38 = .ok (.aload_n 0, 1) := by decide +kernel
theorem dX12_speak_39 : decode cX12_speak 39 = .ok (.iload_n 1, 1) := by decide +kernel
theorem dX12_speak_40 : decode cX12_speak 40 = .ok (.invokevirtual 310, 3) := by decide +kernel
theorem dX12_speak_43 : decode cX12_speak 43 = .ok (.aload_n 0, 1) := by decide +kernel
theorem dX12_speak_44 : decode cX12_speak 44 = .ok (.getfield 45, 3) := by decide +kernel
theorem dX12_speak_47 : decode cX12_speak 47 = .ok (.iconst 5, 1) := by decide +kernel
theorem dX12_speak_48 : decode cX12_speak 48 = .ok (.iaload, 1) := by decide +kernel
theorem dX12_speak_49 : decode cX12_speak 49 = .ok (.ireturn, 1) := by decide +kernel
set_option maxRecDepth 20000 in
theorem ggX12_toss_X12_goesOn : GoodIn wsX12_toss wsX12_goesOn := goodIn_r _ [6, 1, 36, 37, 38, 39, 40, 41, 42, 43, 44, 45, 46, 47, 48, 49, 50, 51, 52, 53, 54, 55, 56, 57, 58, 59, 60, 61, 62, 63, 64, 65, 66, 67, 68, 69, 70, 71, 72] (by decide +kernel) (by decide +kernel)
set_option maxRecDepth 20000 in
theorem gX12_toss_X12_goesOn : GoodIn wsX12_toss (wsV RX12 307 RX12 yX12_goesOn wsX12_goesOn) := goodIn_app (goodIn_of _ (by decide +kernel)) ggX12_toss_X12_goesOn
set_option maxRecDepth 20000 in
theorem ggX12_toss_X12_canThrow : GoodIn wsX12_toss wsX12_canThrow := goodIn_r _ [10, 1, 36, 37, 38, 39, 40, 41, 42, 43, 44, 45, 46, 47, 48, 49, 50, 51, 52, 53, 54, 55, 56, 57, 58, 59, 60, 61, 62, 63, 64, 65, 66, 67, 68, 69, 70, 71, 72] (by decide +kernel) (by decide +kernel)
set_option maxRecDepth 20000 in
theorem gX12_toss_X12_canThrow : GoodIn wsX12_toss (wsV RX12 280 RX12 yX12_canThrow wsX12_canThrow) := goodIn_app (goodIn_of _ (by decide +kernel)) ggX12_toss_X12_canThrow
set_option maxRecDepth 20000 in
theorem ggX12_toss_X12_throwsOne : GoodIn wsX12_toss wsX12_throwsOne := goodIn_r _ [14, 1, 15, 16, 17, 5, 18, 19, 20, 21, 22, 23, 24, 25, 26, 7, 8, 9, 10, 27, 28, 29, 30, 31, 32, 33, 34, 35, 36, 37, 38, 39, 40, 41, 42, 43, 44, 45, 46, 47, 48, 49, 50, 51, 52, 53, 54, 55, 56, 57, 58, 59, 60, 61, 62, 63, 64, 65, 66, 67, 68, 69, 70, 71, 72] (by decide +kernel) (by decide +kernel)
set_option maxRecDepth 20000 in
theorem gX12_toss_X12_throwsOne : GoodIn wsX12_toss (wsV RX12 313 RX12 yX12_throwsOne wsX12_throwsOne) := goodIn_app (goodIn_of _ (by decide +kernel)) ggX12_toss_X12_throwsOne
theorem dX12_toss_0 : decode cX12_toss 0 = .ok (.aload_n 0, 1) := by decide +kernel
theorem dX12_toss_1 : decode cX12_toss 1 = .ok (.invokevirtual 307, 3) := by decide +kernel
theorem dX12_toss_4 : decode cX12_toss 4 = .ok (.ifCond .eq 10, 3) := by decide +kernel
theorem dX12_toss_7 : decode cX12_toss 7 = .ok (.aload_n 0, 1) := by decide +kernel
theorem dX12_toss_8 : decode cX12_toss 8 = .ok (.invokevirtual 280, 3) := by decide +kernel
theorem dX12_toss_11 : decode cX12_toss 11 = .ok (.ifCond .ne 6, 3) := by decide +kernel
theorem dX12_toss_14 : decode cX12_toss 14 = .ok (.bipush (-2), 2) := by decide +kernel
theorem dX12_toss_16 : decode cX12_toss 16 = .ok (.ireturn, 1) := by decide +kernel
theorem dX12_toss_17 : decode cX12_toss 17 = .ok (.aload_n 0, 1) := by decide +kernel
theorem dX12_toss_18 : decode cX12_toss 18 = .ok (.invokevirtual 313, 3) := by decide +kernel
theorem dX12_toss_21 : decode cX12_toss 21 = .ok (.aload_n 0, 1) := by decide +kernel
theorem dX12_toss_22 : decode cX12_toss 22 = .ok (.getfield 45, 3) := by decide +kernel
theorem dX12_toss_25 : decode cX12_toss 25 = .ok (.iconst 5, 1) := by decide +kernel
theorem dX12_toss_26 : decode cX12_toss 26 = .ok (.iaload, 1) := by decide +kernel
theorem dX12_toss_27 : decode cX12_toss 27 = .ok (.ireturn, 1) := by decide +kernel
set_option maxRecDepth 20000 in
theorem ggX12_still_X12_goesOn : GoodIn wsX12_still wsX12_goesOn := goodIn_r _ [6, 1, 16, 17, 18, 19, 20, 21, 22, 23, 24, 25, 26, 27, 28, 29, 30, 31, 32, 33, 34, 35, 36, 37, 38, 39, 40, 41, 42, 43, 44, 45, 46, 47, 48, 49, 50, 51, 52] (by decide +kernel) (by decide +kernel)
set_option maxRecDepth 20000 in
theorem gX12_still_X12_goesOn : GoodIn wsX12_still (wsV RX12 307 RX12 yX12_goesOn wsX12_goesOn) := goodIn_app (goodIn_of _ (by decide +kernel)) ggX12_still_X12_goesOn
set_option maxRecDepth 20000 in
theorem ggX12_still_X12_ends : GoodIn wsX12_still wsX12_ends := goodIn_r _ [10, 11, 1, 12, 13, 14, 5, 15, 16, 17, 18, 19, 20, 21, 22, 23, 24, 25, 26, 27, 28, 29, 30, 31, 32, 33, 34, 35, 36, 37, 38, 39, 40, 41, 42, 43, 44, 45, 46, 47, 48, 49, 50, 51, 52] (by decide +kernel) (by decide +kernel)
set_option maxRecDepth 20000 in
theorem gX12_still_X12_ends : GoodIn wsX12_still (wsV RX12 292 RX12 yX12_ends wsX12_ends) := goodIn_app (goodIn_of _ (by decide +kernel)) ggX12_still_X12_ends
theorem dX12_still_0 : decode cX12_still 0 = .ok (.aload_n 0, 1) := by decide +kernel
theorem dX12_still_1 : decode cX12_still 1 = .ok (.invokevirtual 307, 3) := by decide +kernel
theorem dX12_still_4 : decode cX12_still 4 = .ok (.ifCond .ne 6, 3) := by decide +kernel
theorem dX12_still_7 : decode cX12_still 7 = .ok (.bipush (-2), 2) := by decide +kernel
theorem dX12_still_9 : decode cX12_still 9 = .ok (.ireturn, 1) := by decide +kernel
theorem dX12_still_10 : decode cX12_still 10 = .ok (.aload_n 0, 1) := by decide +kernel
theorem dX12_still_11 : decode cX12_still 11 = .ok (.getfield 45, 3) := by decide +kernel
theorem dX12_still_14 : decode cX12_still 14 = .ok (.bipush 7, 2) := by decide +kernel
theorem dX12_still_16 : decode cX12_still 16 = .ok (.dup2, 1) := by decide +kernel
theorem dX12_still_17 : decode cX12_still 17 = .ok (.iaload, 1) := by decide +kernel
theorem dX12_still_18 : decode cX12_still 18 = .ok (.iconst 1, 1) := by decide +kernel
theorem dX12_still_19 : decode cX12_still 19 = .ok (.iadd, 1) := by decide +kernel
theorem dX12_still_20 : decode cX12_still 20 = .ok (.iastore, 1) := by decide +kernel
theorem dX12_still_21 : decode cX12_still 21 = .ok (.aload_n 0, 1) := by decide +kernel
theorem dX12_still_22 : decode cX12_still 22 = .ok (.invokevirtual 292, 3) := by decide +kernel
theorem dX12_still_25 : decode cX12_still 25 = .ok (.ireturn, 1) := by decide +kernel
set_option maxRecDepth 20000 in
theorem ggX12_side_X12_isCorner : GoodIn wsX12_side wsX12_isCorner := goodIn_r _ [7, 2, 14, 15, 16, 17, 18, 19, 20, 21, 22, 23, 24, 25, 26, 27, 28, 29, 30, 31, 32, 33, 34, 35, 36, 37, 38, 39, 40, 41, 42, 43, 44, 45, 46, 47, 48, 49, 50] (by decide +kernel) (by decide +kernel)
set_option maxRecDepth 20000 in
theorem gX12_side_X12_isCorner : GoodIn wsX12_side (wsV RX12 316 RX12 yX12_isCorner wsX12_isCorner) := goodIn_app (goodIn_of _ (by decide +kernel)) ggX12_side_X12_isCorner
set_option maxRecDepth 20000 in
theorem ggX12_side_X12_isSide : GoodIn wsX12_side wsX12_isSide := goodIn_r _ [10] (by decide +kernel) (by decide +kernel)
set_option maxRecDepth 20000 in
theorem gX12_side_X12_isSide : GoodIn wsX12_side (va_wsS RX12 298 yX12_isSide wsX12_isSide) := goodIn_app (goodIn_of _ (by decide +kernel)) ggX12_side_X12_isSide
set_option maxRecDepth 20000 in
theorem ggX12_side_X12_in : GoodIn wsX12_side wsX12_in := goodIn_r _ [13] (by decide +kernel) (by decide +kernel)
set_option maxRecDepth 20000 in
theorem gX12_side_X12_in : GoodIn wsX12_side (va_wsS RX12 115 yX12_in wsX12_in) := goodIn_app (goodIn_of _ (by decide +kernel)) ggX12_side_X12_in
theorem dX12_side_0 : decode cX12_side 0 = .ok (.aload_n 0, 1) := by decide +kernel
theorem dX12_side_1 : decode cX12_side 1 = .ok (.invokevirtual 316, 3) := by decide +kernel
theorem dX12_side_4 : decode cX12_side 4 = .ok (.ifCond .eq 22, 3) := by decide +kernel
theorem dX12_side_7 : decode cX12_side 7 = .ok (.iload_n 1, 1) := by decide +kernel
theorem dX12_side_8 : decode cX12_side 8 = .ok (.invokestatic 298, 3) := by decide +kernel
theorem dX12_side_11 : decode cX12_side 11 = .ok (.ifCond .eq 15, 3) := by decide +kernel
theorem dX12_side_14 : decode cX12_side 14 = .ok (.iload_n 2, 1) := by decide +kernel
theorem dX12_side_15 : decode cX12_side 15 = .ok (.i2l, 1) := by decide +kernel
theorem dX12_side_16 : decode cX12_side 16 = .ok (.lconst 0, 1) := by decide +kernel
theorem dX12_side_17 : decode cX12_side 17 = .ok (.ldc2_w 319, 3) := by decide +kernel
theorem dX12_side_20 : decode cX12_side 20 = .ok (.invokestatic 115, 3) := by decide +kernel
theorem dX12_side_23 : decode cX12_side 23 = .ok (.ifCond .ne 5, 3) := by decide +kernel
theorem dX12_side_26 : decode cX12_side 26 = .ok (.iconst (-1), 1) := by decide +kernel
theorem dX12_side_27 : decode cX12_side 27 = .ok (.ireturn, 1) := by decide +kernel
theorem dX12_side_28 : decode cX12_side 28 = .ok (.iload_n 2, 1) := by decide +kernel
theorem dX12_side_29 : decode cX12_side 29 = .ok (.iconst 1, 1) := by decide +kernel
theorem dX12_side_30 : decode cX12_side 30 = .ok (.if_icmp .ne 31, 3) := by decide +kernel
theorem dX12_side_33 : decode cX12_side 33 = .ok (.aload_n 0, 1) := by decide +kernel
theorem dX12_side_34 : decode cX12_side 34 = .ok (.getfield 45, 3) := by decide +kernel
theorem dX12_side_37 : decode cX12_side 37 = .ok (.bipush 14, 2) := by decide +kernel
theorem dX12_side_39 : decode cX12_side 39 = .ok (.iload_n 1, 1) := by decide +kernel
theorem dX12_side_40 : decode cX12_side 40 = .ok (.iadd, 1) := by decide +kernel
theorem dX12_side_41 : decode cX12_side 41 = .ok (.iaload, 1) := by decide +kernel
theorem dX12_side_42 : decode cX12_side 42 = .ok (.bipush 9, 2) := by decide +kernel
theorem dX12_side_44 : decode cX12_side 44 = .ok (.if_icmp .ne 7, 3) := by decide +kernel
theorem dX12_side_47 : decode cX12_side 47 = .ok (.iconst (-1), 1) := by decide +kernel
theorem dX12_side_48 : decode cX12_side 48 = .ok (.goto 12, 3) := by decide +kernel
theorem dX12_side_51 : decode cX12_side 51 = .ok (.aload_n 0, 1) := by decide +kernel
theorem dX12_side_52 : decode cX12_side 52 = .ok (.getfield 45, 3) := by decide +kernel
theorem dX12_side_55 : decode cX12_side 55 = .ok (.bipush 14, 2) := by decide +kernel
theorem dX12_side_57 : decode cX12_side 57 = .ok (.iload_n 1, 1) := by decide +kernel
theorem dX12_side_58 : decode cX12_side 58 = .ok (.iadd, 1) := by decide +kernel
theorem dX12_side_59 : decode cX12_side 59 = .ok (.iaload, 1) := by decide +kernel
theorem dX12_side_60 : decode cX12_side 60 = .ok (.ireturn, 1) := by decide +kernel
theorem dX12_side_61 : decode cX12_side 61 = .ok (.aload_n 0, 1) := by decide +kernel
theorem dX12_side_62 : decode cX12_side 62 = .ok (.getfield 45, 3) := by decide +kernel
theorem dX12_side_65 : decode cX12_side 65 = .ok (.iload_n 2, 1) := by decide +kernel
theorem dX12_side_66 : decode cX12_side 66 = .ok (.ifCond .ne 8, 3) := by decide +kernel
theorem dX12_side_69 : decode cX12_side 69 = .ok (.bipush 12, 2) := by decide +kernel
theorem dX12_side_71 : decode cX12_side 71 = .ok (.goto 15, 3) := by decide +kernel
theorem dX12_side_74 : decode cX12_side 74 = .ok (.iload_n 2, 1) := by decide +kernel
theorem dX12_side_75 : decode cX12_side 75 = .ok (.iconst 2, 1) := by decide +kernel
theorem dX12_side_76 : decode cX12_side 76 = .ok (.if_icmp .ne 8, 3) := by decide +kernel
theorem dX12_side_79 : decode cX12_side 79 = .ok (.bipush 16, 2) := by decide +kernel
theorem dX12_side_81 : decode cX12_side 81 = .ok (.goto 5, 3) := by decide +kernel
theorem dX12_side_84 : decode cX12_side 84 = .ok (.bipush 18, 2) := by decide +kernel
theorem dX12_side_86 : decode cX12_side 86 = .ok (.iload_n 1, 1) := by decide +kernel
theorem dX12_side_87 : decode cX12_side 87 = .ok (.iadd, 1) := by decide +kernel
theorem dX12_side_88 : decode cX12_side 88 = .ok (.iaload, 1) := by decide +kernel
theorem dX12_side_89 : decode cX12_side 89 = .ok (.ireturn, 1) := by decide +kernel
set_option maxRecDepth 20000 in
theorem ggX12_fill_X12_isCorner : GoodIn wsX12_fill wsX12_isCorner := goodIn_r _ [7, 2, 43, 44, 45, 46, 47, 48, 49, 50, 51, 52, 53, 54, 55, 56, 57, 58, 59, 60, 61, 62, 63, 64, 65, 66, 67, 68, 69, 70, 71, 72, 73, 74, 75, 76, 77, 78, 79] (by decide +kernel) (by decide +kernel)
set_option maxRecDepth 20000 in
theorem gX12_fill_X12_isCorner : GoodIn wsX12_fill (wsV RX12 316 RX12 yX12_isCorner wsX12_isCorner) := goodIn_app (goodIn_of _ (by decide +kernel)) ggX12_fill_X12_isCorner
set_option maxRecDepth 20000 in
theorem ggX12_fill_X12_isSide : GoodIn wsX12_fill wsX12_isSide := goodIn_r _ [10] (by decide +kernel) (by decide +kernel)
set_option maxRecDepth 20000 in
theorem gX12_fill_X12_isSide : GoodIn wsX12_fill (va_wsS RX12 298 yX12_isSide wsX12_isSide) := goodIn_app (goodIn_of _ (by decide +kernel)) ggX12_fill_X12_isSide
set_option maxRecDepth 20000 in
theorem ggX12_fill_X12_in : GoodIn wsX12_fill wsX12_in := goodIn_r _ [13] (by decide +kernel) (by decide +kernel)
set_option maxRecDepth 20000 in
theorem gX12_fill_X12_in : GoodIn wsX12_fill (va_wsS RX12 115 yX12_in wsX12_in) := goodIn_app (goodIn_of _ (by decide +kernel)) ggX12_fill_X12_in
set_option maxRecDepth 20000 in
theorem ggX12_fill_X12_goesOn : GoodIn wsX12_fill wsX12_goesOn := goodIn_r _ [17, 2, 43, 44, 45, 46, 47, 48, 49, 50, 51, 52, 53, 54, 55, 56, 57, 58, 59, 60, 61, 62, 63, 64, 65, 66, 67, 68, 69, 70, 71, 72, 73, 74, 75, 76, 77, 78, 79] (by decide +kernel) (by decide +kernel)
set_option maxRecDepth 20000 in
theorem gX12_fill_X12_goesOn : GoodIn wsX12_fill (wsV RX12 307 RX12 yX12_goesOn wsX12_goesOn) := goodIn_app (goodIn_of _ (by decide +kernel)) ggX12_fill_X12_goesOn
set_option maxRecDepth 20000 in
theorem ggX12_fill_X12_looks : GoodIn wsX12_fill wsX12_looks := goodIn_r _ [21, 22, 23, 24, 6, 25, 2, 26, 27, 28, 29, 30, 31, 32, 33, 34, 35, 36, 37, 38, 39, 40, 41, 42, 43, 44, 45, 46, 47, 48, 49, 50, 51, 52, 53, 54, 55, 56, 57, 58, 59, 60, 61, 62, 63, 64, 65, 66, 67, 68, 69, 70, 71, 72, 73, 74, 75, 76, 77, 78, 79] (by decide +kernel) (by decide +kernel)
set_option maxRecDepth 20000 in
theorem gX12_fill_X12_looks : GoodIn wsX12_fill (wsV RX12 295 RX12 yX12_looks wsX12_looks) := goodIn_app (goodIn_of _ (by decide +kernel)) ggX12_fill_X12_looks
theorem dX12_fill_0 : decode cX12_fill 0 = .ok (.aload_n 0, 1) := by decide +kernel
theorem dX12_fill_1 : decode cX12_fill 1 = .ok (.invokevirtual 316, 3) := by decide +kernel
theorem dX12_fill_4 : decode cX12_fill 4 = .ok (.ifCond .eq 22, 3) := by decide +kernel
theorem dX12_fill_7 : decode cX12_fill 7 = .ok (.iload_n 1, 1) := by decide +kernel
theorem dX12_fill_8 : decode cX12_fill 8 = .ok (.invokestatic 298, 3) := by decide +kernel
theorem dX12_fill_11 : decode cX12_fill 11 = .ok (.ifCond .eq 15, 3) := by decide +kernel
theorem dX12_fill_14 : decode cX12_fill 14 = .ok (.iload_n 2, 1) := by decide +kernel
theorem dX12_fill_15 : decode cX12_fill 15 = .ok (.i2l, 1) := by decide +kernel
theorem dX12_fill_16 : decode cX12_fill 16 = .ok (.lconst 0, 1) := by decide +kernel
theorem dX12_fill_17 : decode cX12_fill 17 = .ok (.ldc2_w 321, 3) := by decide +kernel
theorem dX12_fill_20 : decode cX12_fill 20 = .ok (.invokestatic 115, 3) := by decide +kernel
theorem dX12_fill_23 : decode cX12_fill 23 = .ok (.ifCond .ne 5, 3) := by decide +kernel
theorem dX12_fill_26 : decode cX12_fill 26 = .ok (.iconst (-1), 1) := by decide +kernel
theorem dX12_fill_27 : decode cX12_fill 27 = .ok (.ireturn, 1) := by decide +kernel
theorem dX12_fill_28 : decode cX12_fill 28 = .ok (.aload_n 0, 1) := by decide +kernel
theorem dX12_fill_29 : decode cX12_fill 29 = .ok (.getfield 45, 3) := by decide +kernel
theorem dX12_fill_32 : decode cX12_fill 32 = .ok (.bipush 12, 2) := by decide +kernel
theorem dX12_fill_34 : decode cX12_fill 34 = .ok (.iload_n 1, 1) := by decide +kernel
theorem dX12_fill_35 : decode cX12_fill 35 = .ok (.iadd, 1) := by decide +kernel
theorem dX12_fill_36 : decode cX12_fill 36 = .ok (.iaload, 1) := by decide +kernel
theorem dX12_fill_37 : decode cX12_fill 37 = .ok (.istore_n 3, 1) := by decide +kernel
theorem dX12_fill_38 : decode cX12_fill 38 = .ok (.aload_n 0, 1) := by decide +kernel
theorem dX12_fill_39 : decode cX12_fill 39 = .ok (.getfield 45, 3) := by decide +kernel
theorem dX12_fill_42 : decode cX12_fill 42 = .ok (.bipush 12, 2) := by decide +kernel
theorem dX12_fill_44 : decode cX12_fill 44 = .ok (.iload_n 1, 1) := by decide +kernel
theorem dX12_fill_45 : decode cX12_fill 45 = .ok (.iadd, 1) := by decide +kernel
theorem dX12_fill_46 : decode cX12_fill 46 = .ok (.iload_n 2, 1) := by decide +kernel
theorem dX12_fill_47 : decode cX12_fill 47 = .ok (.iastore, 1) := by decide +kernel
theorem dX12_fill_48 : decode cX12_fill 48 = .ok (.aload_n 0, 1) := by decide +kernel
theorem dX12_fill_49 : decode cX12_fill 49 = .ok (.invokevirtual 307, 3) := by decide +kernel
theorem dX12_fill_52 : decode cX12_fill 52 = .ok (.ifCond .eq 7, 3) := by decide +kernel
theorem dX12_fill_55 : decode cX12_fill 55 = .ok (.aload_n 0, 1) := by decide +kernel
theorem dX12_fill_56 : decode cX12_fill 56 = .ok (.invokevirtual 295, 3) := by decide +kernel
theorem dX12_fill_59 : decode cX12_fill 59 = .ok (.iload_n 3, 1) := by decide +kernel
theorem dX12_fill_60 : decode cX12_fill 60 = .ok (.ireturn, 1) := by decide +kernel
theorem dX12_words_0 : decode cX12_words 0 = .ok (.aload_n 0, 1) := by decide +kernel
theorem dX12_words_1 : decode cX12_words 1 = .ok (.getfield 45, 3) := by decide +kernel
theorem dX12_words_4 : decode cX12_words 4 = .ok (.bipush 6, 2) := by decide +kernel
theorem dX12_words_6 : decode cX12_words 6 = .ok (.iaload, 1) := by decide +kernel
theorem dX12_words_7 : decode cX12_words 7 = .ok (.istore_n 1, 1) := by decide +kernel
theorem dX12_words_8 : decode cX12_words 8 = .ok (.aload_n 0, 1) := by decide +kernel
theorem dX12_words_9 : decode cX12_words 9 = .ok (.getfield 42, 3) := by decide +kernel
theorem dX12_words_12 : decode cX12_words 12 = .ok (.iconst 0, 1) := by decide +kernel
theorem dX12_words_13 : decode cX12_words 13 = .ok (.iload_n 1, 1) := by decide +kernel
theorem dX12_words_14 : decode cX12_words 14 = .ok (.i2l, 1) := by decide +kernel
theorem dX12_words_15 : decode cX12_words 15 = .ok (.lastore, 1) := by decide +kernel
theorem dX12_words_16 : decode cX12_words 16 = .ok (.aload_n 0, 1) := by decide +kernel
theorem dX12_words_17 : decode cX12_words 17 = .ok (.getfield 42, 3) := by decide +kernel
theorem dX12_words_20 : decode cX12_words 20 = .ok (.iconst 1, 1) := by decide +kernel
theorem dX12_words_21 : decode cX12_words 21 = .ok (.aload_n 0, 1) := by decide +kernel
theorem dX12_words_22 : decode cX12_words 22 = .ok (.getfield 45, 3) := by decide +kernel
theorem dX12_words_25 : decode cX12_words 25 = .ok (.iconst 5, 1) := by decide +kernel
theorem dX12_words_26 : decode cX12_words 26 = .ok (.iaload, 1) := by decide +kernel
theorem dX12_words_27 : decode cX12_words 27 = .ok (.i2l, 1) := by decide +kernel
theorem dX12_words_28 : decode cX12_words 28 = .ok (.lastore, 1) := by decide +kernel
theorem dX12_words_29 : decode cX12_words 29 = .ok (.aload_n 0, 1) := by decide +kernel
theorem dX12_words_30 : decode cX12_words 30 = .ok (.getfield 42, 3) := by decide +kernel
theorem dX12_words_33 : decode cX12_words 33 = .ok (.iconst 2, 1) := by decide +kernel
theorem dX12_words_34 : decode cX12_words 34 = .ok (.aload_n 0, 1) := by decide +kernel
theorem dX12_words_35 : decode cX12_words 35 = .ok (.getfield 45, 3) := by decide +kernel
theorem dX12_words_38 : decode cX12_words 38 = .ok (.iconst 4, 1) := by decide +kernel
theorem dX12_words_39 : decode cX12_words 39 = .ok (.iaload, 1) := by decide +kernel
theorem dX12_words_40 : decode cX12_words 40 = .ok (.i2l, 1) := by decide +kernel
theorem dX12_words_41 : decode cX12_words 41 = .ok (.lastore, 1) := by decide +kernel
theorem dX12_words_42 : decode cX12_words 42 = .ok (.aload_n 0, 1) := by decide +kernel
theorem dX12_words_43 : decode cX12_words 43 = .ok (.getfield 42, 3) := by decide +kernel
theorem dX12_words_46 : decode cX12_words 46 = .ok (.iconst 3, 1) := by decide +kernel
theorem dX12_words_47 : decode cX12_words 47 = .ok (.aload_n 0, 1) := by decide +kernel
theorem dX12_words_48 : decode cX12_words 48 = .ok (.getfield 45, 3) := by decide +kernel
theorem dX12_words_51 : decode cX12_words 51 = .ok (.bipush 12, 2) := by decide +kernel
theorem dX12_words_53 : decode cX12_words 53 = .ok (.iload_n 1, 1) := by decide +kernel
theorem dX12_words_54 : decode cX12_words 54 = .ok (.iadd, 1) := by decide +kernel
theorem dX12_words_55 : decode cX12_words 55 = .ok (.iaload, 1) := by decide +kernel
theorem dX12_words_56 : decode cX12_words 56 = .ok (.i2l, 1) := by decide +kernel
theorem dX12_words_57 : decode cX12_words 57 = .ok (.lastore, 1) := by decide +kernel
theorem dX12_words_58 : decode cX12_words 58 = .ok (.aload_n 0, 1) := by decide +kernel
theorem dX12_words_59 : decode cX12_words 59 = .ok (.getfield 42, 3) := by decide +kernel
theorem dX12_words_62 : decode cX12_words 62 = .ok (.iconst 4, 1) := by decide +kernel
theorem dX12_words_63 : decode cX12_words 63 = .ok (.aload_n 0, 1) := by decide +kernel
theorem dX12_words_64 : decode cX12_words 64 = .ok (.getfield 45, 3) := by decide +kernel
theorem dX12_words_67 : decode cX12_words 67 = .ok (.bipush 13, 2) := by decide +kernel
theorem dX12_words_69 : decode cX12_words 69 = .ok (.iload_n 1, 1) := by decide +kernel
theorem dX12_words_70 : decode cX12_words 70 = .ok (.isub, 1) := by decide +kernel
theorem dX12_words_71 : decode cX12_words 71 = .ok (.iaload, 1) := by decide +kernel
theorem dX12_words_72 : decode cX12_words 72 = .ok (.i2l, 1) := by decide +kernel
theorem dX12_words_73 : decode cX12_words 73 = .ok (.lastore, 1) := by decide +kernel
theorem dX12_words_74 : decode cX12_words 74 = .ok (.aload_n 0, 1) := by decide +kernel
theorem dX12_words_75 : decode cX12_words 75 = .ok (.getfield 42, 3) := by decide +kernel
theorem dX12_words_78 : decode cX12_words 78 = .ok (.iconst 5, 1) := by decide +kernel
theorem dX12_words_79 : decode cX12_words 79 = .ok (.aload_n 0, 1) := by decide +kernel
theorem dX12_words_80 : decode cX12_words 80 = .ok (.getfield 45, 3) := by decide +kernel
theorem dX12_words_83 : decode cX12_words 83 = .ok (.bipush 14, 2) := by decide +kernel
theorem dX12_words_85 : decode cX12_words 85 = .ok (.iload_n 1, 1) := by decide +kernel
theorem dX12_words_86 : decode cX12_words 86 = .ok (.iadd, 1) := by decide +kernel
theorem dX12_words_87 : decode cX12_words 87 = .ok (.iaload, 1) := by decide +kernel
theorem dX12_words_88 : decode cX12_words 88 = .ok (.i2l, 1) := by decide +kernel
theorem dX12_words_89 : decode cX12_words 89 = .ok (.lastore, 1) := by decide +kernel
theorem dX12_words_90 : decode cX12_words 90 = .ok (.aload_n 0, 1) := by decide +kernel
theorem dX12_words_91 : decode cX12_words 91 = .ok (.getfield 42, 3) := by decide +kernel
theorem dX12_words_94 : decode cX12_words 94 = .ok (.bipush 6, 2) := by decide +kernel
theorem dX12_words_96 : decode cX12_words 96 = .ok (.aload_n 0, 1) := by decide +kernel
theorem dX12_words_97 : decode cX12_words 97 = .ok (.getfield 45, 3) := by decide +kernel
theorem dX12_words_100 : decode cX12_words 100 = .ok (.bipush 15, 2) := by decide +kernel
theorem dX12_words_102 : decode cX12_words 102 = .ok (.iload_n 1, 1) := by decide +kernel
theorem dX12_words_103 : decode cX12_words 103 = .ok (.isub, 1) := by decide +kernel
theorem dX12_words_104 : decode cX12_words 104 = .ok (.iaload, 1) := by decide +kernel
theorem dX12_words_105 : decode cX12_words 105 = .ok (.i2l, 1) := by decide +kernel
theorem dX12_words_106 : decode cX12_words 106 = .ok (.lastore, 1) := by decide +kernel
theorem dX12_words_107 : decode cX12_words 107 = .ok (.aload_n 0, 1) := by decide +kernel
theorem dX12_words_108 : decode cX12_words 108 = .ok (.getfield 42, 3) := by decide +kernel
theorem dX12_words_111 : decode cX12_words 111 = .ok (.bipush 7, 2) := by decide +kernel
theorem dX12_words_113 : decode cX12_words 113 = .ok (.aload_n 0, 1) := by decide +kernel
theorem dX12_words_114 : decode cX12_words 114 = .ok (.getfield 45, 3) := by decide +kernel
theorem dX12_words_117 : decode cX12_words 117 = .ok (.bipush 16, 2) := by decide +kernel
theorem dX12_words_119 : decode cX12_words 119 = .ok (.iload_n 1, 1) := by decide +kernel
theorem dX12_words_120 : decode cX12_words 120 = .ok (.iadd, 1) := by decide +kernel
theorem dX12_words_121 : decode cX12_words 121 = .ok (.iaload, 1) := by decide +kernel
theorem dX12_words_122 : decode cX12_words 122 = .ok (.i2l, 1) := by decide +kernel
theorem dX12_words_123 : decode cX12_words 123 = .ok (.lastore, 1) := by decide +kernel
theorem dX12_words_124 : decode cX12_words 124 = .ok (.aload_n 0, 1) := by decide +kernel
theorem dX12_words_125 : decode cX12_words 125 = .ok (.getfield 42, 3) := by decide +kernel
theorem dX12_words_128 : decode cX12_words 128 = .ok (.bipush 8, 2) := by decide +kernel
theorem dX12_words_130 : decode cX12_words 130 = .ok (.aload_n 0, 1) := by decide +kernel
theorem dX12_words_131 : decode cX12_words 131 = .ok (.getfield 45, 3) := by decide +kernel
theorem dX12_words_134 : decode cX12_words 134 = .ok (.bipush 7, 2) := by decide +kernel
theorem dX12_words_136 : decode cX12_words 136 = .ok (.iaload, 1) := by decide +kernel
theorem dX12_words_137 : decode cX12_words 137 = .ok (.i2l, 1) := by decide +kernel
theorem dX12_words_138 : decode cX12_words 138 = .ok (.lastore, 1) := by decide +kernel
theorem dX12_words_139 : decode cX12_words 139 = .ok (.return_, 1) := by decide +kernel
set_option maxRecDepth 20000 in
theorem ggX12_clauseFor_X12_words : GoodIn wsX12_clauseFor wsX12_words := goodIn_r _ [7, 8, 9, 36, 37, 38, 39, 40, 41, 42, 43, 44, 45, 46, 47, 48, 49, 50, 51, 52, 53, 54, 55, 56, 57, 58, 59, 60, 61, 62, 63, 64, 65, 66, 67, 68, 69, 70, 71, 72] (by decide +kernel) (by decide +kernel)
set_option maxRecDepth 20000 in
theorem gX12_clauseFor_X12_words : GoodIn wsX12_clauseFor (wsV RX12 323 RX12 yX12_words wsX12_words) := goodIn_app (goodIn_of _ (by decide +kernel)) ggX12_clauseFor_X12_words
set_option maxRecDepth 20000 in
theorem ggX12_clauseFor_X12_canSay : GoodIn wsX12_clauseFor wsX12_canSay := goodIn_r _ [13, 8, 36, 37, 38, 39, 40, 41, 42, 43, 44, 45, 46, 47, 48, 49, 50, 51, 52, 53, 54, 55, 56, 57, 58, 59, 60, 61, 62, 63, 64, 65, 66, 67, 68, 69, 70, 71, 72] (by decide +kernel) (by decide +kernel)
set_option maxRecDepth 20000 in
theorem gX12_clauseFor_X12_canSay : GoodIn wsX12_clauseFor (wsV RX12 277 RX12 yX12_canSay wsX12_canSay) := goodIn_app (goodIn_of _ (by decide +kernel)) ggX12_clauseFor_X12_canSay
set_option maxRecDepth 20000 in
theorem ggX12_clauseFor_X12_canThrow : GoodIn wsX12_clauseFor wsX12_canThrow := goodIn_r _ [17, 8, 36, 37, 38, 39, 40, 41, 42, 43, 44, 45, 46, 47, 48, 49, 50, 51, 52, 53, 54, 55, 56, 57, 58, 59, 60, 61, 62, 63, 64, 65, 66, 67, 68, 69, 70, 71, 72] (by decide +kernel) (by decide +kernel)
set_option maxRecDepth 20000 in
theorem gX12_clauseFor_X12_canThrow : GoodIn wsX12_clauseFor (wsV RX12 280 RX12 yX12_canThrow wsX12_canThrow) := goodIn_app (goodIn_of _ (by decide +kernel)) ggX12_clauseFor_X12_canThrow
set_option maxRecDepth 20000 in
theorem ggX12_clauseFor_X12_reckons : GoodIn wsX12_clauseFor wsX12_reckons := goodIn_r _ [21, 22, 23, 9, 24, 25, 26, 6, 27, 28, 29, 30, 31, 32, 33, 34, 35, 36, 37, 38, 39, 40, 41, 42, 43, 44, 45, 46, 47, 48, 49, 50, 51, 52, 53, 54, 55, 56, 57, 58, 59, 60, 61, 62, 63, 64, 65, 66, 67, 68, 69, 70, 71, 72] (by decide +kernel) (by decide +kernel)
set_option maxRecDepth 20000 in
theorem gX12_clauseFor_X12_reckons : GoodIn wsX12_clauseFor (wsV RX12 326 RX12 yX12_reckons wsX12_reckons) := goodIn_app (goodIn_of _ (by decide +kernel)) ggX12_clauseFor_X12_reckons
theorem dX12_clauseFor_0 : decode cX12_clauseFor 0 = .ok (.iload_n 1, 1) := by decide +kernel
theorem dX12_clauseFor_1 : decode cX12_clauseFor 1 = .ok (.ifCond .ge 5, 3) := by decide +kernel
theorem dX12_clauseFor_4 : decode cX12_clauseFor 4 = .ok (.iconst (-1), 1) := by decide +kernel
theorem dX12_clauseFor_5 : decode cX12_clauseFor 5 = .ok (.ireturn, 1) := by decide +kernel
theorem dX12_clauseFor_6 : decode cX12_clauseFor 6 = .ok (.aload_n 0, 1) := by decide +kernel
theorem dX12_clauseFor_7 : decode cX12_clauseFor 7 = .ok (.invokevirtual 323, 3) := by decide +kernel
theorem dX12_clauseFor_10 : decode cX12_clauseFor 10 = .ok (.iconst 0, 1) := by decide +kernel
theorem dX12_clauseFor_11 : decode cX12_clauseFor 11 = .ok (.istore_n 2, 1) := by decide +kernel
theorem dX12_clauseFor_12 : decode cX12_clauseFor 12 = .ok (.iload_n 2, 1) := by decide +kernel
theorem dX12_clauseFor_13 : decode cX12_clauseFor 13 = .ok (.aload_n 0, 1) := by decide +kernel
theorem dX12_clauseFor_14 : decode cX12_clauseFor 14 = .ok (.getfield 23, 3) := by decide +kernel
theorem dX12_clauseFor_17 : decode cX12_clauseFor 17 = .ok (.iload_n 1, 1) := by decide +kernel
theorem dX12_clauseFor_18 : decode cX12_clauseFor 18 = .ok (.iaload, 1) := by decide +kernel
theorem dX12_clauseFor_19 : decode cX12_clauseFor 19 = .ok (.if_icmp .ge 110, 3) := by decide +kernel
theorem dX12_clauseFor_22 : decode cX12_clauseFor 22 = .ok (.bipush 48, 2) := by decide +kernel
theorem dX12_clauseFor_24 : decode cX12_clauseFor 24 = .ok (.iload_n 1, 1) := by decide +kernel
theorem dX12_clauseFor_25 : decode cX12_clauseFor 25 = .ok (.imul, 1) := by decide +kernel
theorem dX12_clauseFor_26 : decode cX12_clauseFor 26 = .ok (.iconst 4, 1) := by decide +kernel
theorem dX12_clauseFor_27 : decode cX12_clauseFor 27 = .ok (.iload_n 2, 1) := by decide +kernel
theorem dX12_clauseFor_28 : decode cX12_clauseFor 28 = .ok (.imul, 1) := by decide +kernel
theorem dX12_clauseFor_29 : decode cX12_clauseFor 29 = .ok (.iadd, 1) := by decide +kernel
theorem dX12_clauseFor_30 : decode cX12_clauseFor 30 = .ok (.istore_n 3, 1) := by decide +kernel
theorem dX12_clauseFor_31 : decode cX12_clauseFor 31 = .ok (.aload_n 0, 1) := by decide +kernel
theorem dX12_clauseFor_32 : decode cX12_clauseFor 32 = .ok (.getfield 20, 3) := by decide +kernel
theorem dX12_clauseFor_35 : decode cX12_clauseFor 35 = .ok (.iload_n 3, 1) := by decide +kernel
theorem dX12_clauseFor_36 : decode cX12_clauseFor 36 = .ok (.iaload, 1) := by decide +kernel
theorem dX12_clauseFor_37 : decode cX12_clauseFor 37 = .ok (.ifCond .ne 18, 3) := by decide +kernel
theorem dX12_clauseFor_40 : decode cX12_clauseFor 40 = .ok (.aload_n 0, 1) := by decide +kernel
theorem dX12_clauseFor_41 : decode cX12_clauseFor 41 = .ok (.aload_n 0, 1) := by decide +kernel
theorem dX12_clauseFor_42 : decode cX12_clauseFor 42 = .ok (.getfield 20, 3) := by decide +kernel
theorem dX12_clauseFor_45 : decode cX12_clauseFor 45 = .ok (.iload_n 3, 1) := by decide +kernel
theorem dX12_clauseFor_46 : decode cX12_clauseFor 46 = .ok (.iconst 1, 1) := by decide +kernel
theorem dX12_clauseFor_47 : decode cX12_clauseFor 47 = .ok (.iadd, 1) := by decide +kernel
theorem dX12_clauseFor_48 : decode cX12_clauseFor 48 = .ok (.iaload, 1) := by decide +kernel
theorem dX12_clauseFor_49 : decode cX12_clauseFor 49 = .ok (.invokevirtual 277, 3) := by decide +kernel
theorem dX12_clauseFor_52 : decode cX12_clauseFor 52 = .ok (.goto 25, 3) := by decide +kernel
theorem dX12_clauseFor_55 : decode cX12_clauseFor 55 = .ok (.aload_n 0, 1) := by decide +kernel
theorem dX12_clauseFor_56 : decode cX12_clauseFor 56 = .ok (.getfield 20, 3) := by decide +kernel
theorem dX12_clauseFor_59 : decode cX12_clauseFor 59 = .ok (.iload_n 3, 1) := by decide +kernel
theorem dX12_clauseFor_60 : decode cX12_clauseFor 60 = .ok (.iaload, 1) := by decide +kernel
theorem dX12_clauseFor_61 : decode cX12_clauseFor 61 = .ok (.iconst 2, 1) := by decide +kernel
theorem dX12_clauseFor_62 : decode cX12_clauseFor 62 = .ok (.if_icmp .eq 10, 3) := by decide +kernel
theorem dX12_clauseFor_65 : decode cX12_clauseFor 65 = .ok (.aload_n 0, 1) := by decide +kernel
theorem dX12_clauseFor_66 : decode cX12_clauseFor 66 = .ok (.invokevirtual 280, 3) := by decide +kernel
theorem dX12_clauseFor_69 : decode cX12_clauseFor 69 = .ok (.ifCond .eq 7, 3) := by decide +kernel
theorem dX12_clauseFor_72 : decode cX12_clauseFor 72 = .ok (.iconst 1, 1) := by decide +kernel
theorem dX12_clauseFor_73 : decode cX12_clauseFor 73 = .ok (.goto 4, 3) := by decide +kernel
theorem dX12_clauseFor_76 : decode cX12_clauseFor 76 = .ok (.iconst 0, 1) := by decide +kernel
theorem dX12_clauseFor_77 : decode cX12_clauseFor 77 = .ok (.istore 4, 2) := by decide +kernel
theorem dX12_clauseFor_79 : decode cX12_clauseFor 79 = .ok (.iload 4, 2) := by decide +kernel
theorem dX12_clauseFor_81 : decode cX12_clauseFor 81 = .ok (.ifCond .eq 42, 3) := by decide +kernel
theorem dX12_clauseFor_84 : decode cX12_clauseFor 84 = .ok (.aload_n 0, 1) := by decide +kernel
theorem dX12_clauseFor_85 : decode cX12_clauseFor 85 = .ok (.getfield 20, 3) := by decide +kernel
theorem dX12_clauseFor_88 : decode cX12_clauseFor 88 = .ok (.iload_n 3, 1) := by decide +kernel
theorem dX12_clauseFor_89 : decode cX12_clauseFor 89 = .ok (.iconst 2, 1) := by decide +kernel
theorem dX12_clauseFor_90 : decode cX12_clauseFor 90 = .ok (.iadd, 1) := by decide +kernel
theorem dX12_clauseFor_91 : decode cX12_clauseFor 91 = .ok (.iaload, 1) := by decide +kernel
theorem dX12_clauseFor_92 : decode cX12_clauseFor 92 = .ok (.ifCond .lt 29, 3) := by decide +kernel
theorem dX12_clauseFor_95 : decode cX12_clauseFor 95 = .ok (.aload_n 0, 1) := by decide +kernel
theorem dX12_clauseFor_96 : decode cX12_clauseFor 96 = .ok (.iload_n 1, 1) := by decide +kernel
theorem dX12_clauseFor_97 : decode cX12_clauseFor 97 = .ok (.aload_n 0, 1) := by decide +kernel
theorem dX12_clauseFor_98 : decode cX12_clauseFor 98 = .ok (.getfield 20, 3) := by decide +kernel
theorem dX12_clauseFor_101 : decode cX12_clauseFor 101 = .ok (.iload_n 3, 1) := by decide +kernel
theorem dX12_clauseFor_102 : decode cX12_clauseFor 102 = .ok (.iconst 2, 1) := by decide +kernel
theorem dX12_clauseFor_103 : decode cX12_clauseFor 103 = .ok (.iadd, 1) := by decide +kernel
theorem dX12_clauseFor_104 : decode cX12_clauseFor 104 = .ok (.iaload, 1) := by decide +kernel
theorem dX12_clauseFor_105 : decode cX12_clauseFor 105 = .ok (.aload_n 0, 1) := by decide +kernel
theorem dX12_clauseFor_106 : decode cX12_clauseFor 106 = .ok (.getfield 20, 3) := by decide +kernel
theorem dX12_clauseFor_109 : decode cX12_clauseFor 109 = .ok (.iload_n 3, 1) := by decide +kernel
theorem dX12_clauseFor_110 : decode cX12_clauseFor 110 = .ok (.iconst 3, 1) := by decide +kernel
theorem dX12_clauseFor_111 : decode cX12_clauseFor 111 = .ok (.iadd, 1) := by decide +kernel
theorem dX12_clauseFor_112 : decode cX12_clauseFor 112 = .ok (.iaload, 1) := by decide +kernel
theorem dX12_clauseFor_113 : decode cX12_clauseFor 113 = .ok (.invokevirtual 326, 3) := by decide +kernel
theorem dX12_clauseFor_116 : decode cX12_clauseFor 116 = .ok (.lconst 1, 1) := by decide +kernel
theorem dX12_clauseFor_117 : decode cX12_clauseFor 117 = .ok (.lcmp, 1) := by decide +kernel
theorem dX12_clauseFor_118 : decode cX12_clauseFor 118 = .ok (.ifCond .ne 5, 3) := by decide +kernel
theorem dX12_clauseFor_121 : decode cX12_clauseFor 121 = .ok (.iload_n 3, 1) := by decide +kernel
theorem dX12_clauseFor_122 : decode cX12_clauseFor 122 = .ok (.ireturn, 1) := by decide +kernel
theorem dX12_clauseFor_123 : decode cX12_clauseFor 123 = .ok (.iinc 2 1, 3) := by decide +kernel
theorem dX12_clauseFor_126 : decode cX12_clauseFor 126 = .ok (.goto (-114), 3) := by decide +kernel
theorem dX12_clauseFor_129 : decode cX12_clauseFor 129 = .ok (.iconst (-1), 1) := by decide +kernel
theorem dX12_clauseFor_130 : decode cX12_clauseFor 130 = .ok (.ireturn, 1) := by decide +kernel
set_option maxRecDepth 20000 in
theorem ggX12_runs_X12_goesOn : GoodIn wsX12_runs wsX12_goesOn := goodIn_r _ [8, 1, 69, 70, 71, 72, 73, 74, 75, 76, 77, 78, 79, 80, 81, 82, 83, 84, 85, 86, 87, 88, 89, 90, 91, 92, 93, 94, 95, 96, 97, 98, 99, 100, 101, 102, 103, 104, 105] (by decide +kernel) (by decide +kernel)
set_option maxRecDepth 20000 in
theorem gX12_runs_X12_goesOn : GoodIn wsX12_runs (wsV RX12 307 RX12 yX12_goesOn wsX12_goesOn) := goodIn_app (goodIn_of _ (by decide +kernel)) ggX12_runs_X12_goesOn
set_option maxRecDepth 20000 in
theorem ggX12_runs_X12_clauseFor : GoodIn wsX12_runs wsX12_clauseFor := goodIn_r _ [12, 13, 2, 14, 15, 16, 7, 17, 1, 18, 19, 20, 21, 22, 23, 24, 25, 26, 27, 28, 29, 30, 31, 32, 33, 34, 35, 36, 37, 38, 39, 40, 41, 42, 43, 44, 69, 70, 71, 72, 73, 74, 75, 76, 77, 78, 79, 80, 81, 82, 83, 84, 85, 86, 87, 88, 89, 90, 91, 92, 93, 94, 95, 96, 97, 98, 99, 100, 101, 102, 103, 104, 105] (by decide +kernel) (by decide +kernel)
set_option maxRecDepth 20000 in
theorem gX12_runs_X12_clauseFor : GoodIn wsX12_runs (wsV RX12 330 RX12 yX12_clauseFor wsX12_clauseFor) := goodIn_app (goodIn_of _ (by decide +kernel)) ggX12_runs_X12_clauseFor
set_option maxRecDepth 20000 in
theorem ggX12_runs_X12_ends : GoodIn wsX12_runs wsX12_ends := goodIn_r _ [48, 3, 1, 49, 50, 51, 7, 52, 69, 70, 71, 72, 73, 74, 75, 76, 77, 78, 79, 80, 81, 82, 83, 84, 85, 86, 87, 88, 89, 90, 91, 92, 93, 94, 95, 96, 97, 98, 99, 100, 101, 102, 103, 104, 105] (by decide +kernel) (by decide +kernel)
set_option maxRecDepth 20000 in
theorem gX12_runs_X12_ends : GoodIn wsX12_runs (wsV RX12 292 RX12 yX12_ends wsX12_ends) := goodIn_app (goodIn_of _ (by decide +kernel)) ggX12_runs_X12_ends
set_option maxRecDepth 20000 in
theorem ggX12_runs_X12_says : GoodIn wsX12_runs wsX12_says := goodIn_r _ [56, 1, 57, 58, 59, 7, 60, 61, 62, 63, 64, 19, 20, 21, 22, 23, 24, 25, 26, 45, 46, 47, 48, 3, 49, 50, 51, 52, 69, 70, 71, 72, 73, 74, 75, 76, 77, 78, 79, 80, 81, 82, 83, 84, 85, 86, 87, 88, 89, 90, 91, 92, 93, 94, 95, 96, 97, 98, 99, 100, 101, 102, 103, 104, 105] (by decide +kernel) (by decide +kernel)
set_option maxRecDepth 20000 in
theorem gX12_runs_X12_says : GoodIn wsX12_runs (wsV RX12 310 RX12 yX12_says wsX12_says) := goodIn_app (goodIn_of _ (by decide +kernel)) ggX12_runs_X12_says
set_option maxRecDepth 20000 in
theorem ggX12_runs_X12_throwsOne : GoodIn wsX12_runs wsX12_throwsOne := goodIn_r _ [68, 1, 57, 58, 59, 7, 60, 61, 62, 63, 64, 19, 20, 21, 22, 23, 24, 25, 26, 45, 46, 47, 48, 3, 49, 50, 51, 52, 69, 70, 71, 72, 73, 74, 75, 76, 77, 78, 79, 80, 81, 82, 83, 84, 85, 86, 87, 88, 89, 90, 91, 92, 93, 94, 95, 96, 97, 98, 99, 100, 101, 102, 103, 104, 105] (by decide +kernel) (by decide +kernel)
set_option maxRecDepth 20000 in
theorem gX12_runs_X12_throwsOne : GoodIn wsX12_runs (wsV RX12 313 RX12 yX12_throwsOne wsX12_throwsOne) := goodIn_app (goodIn_of _ (by decide +kernel)) ggX12_runs_X12_throwsOne
theorem dX12_runs_0 : decode cX12_runs 0 = .ok (.aload_n 0, 1) := by decide +kernel
theorem dX12_runs_1 : decode cX12_runs 1 = .ok (.invokevirtual 307, 3) := by decide +kernel
theorem dX12_runs_4 : decode cX12_runs 4 = .ok (.ifCond .eq 84, 3) := by decide +kernel
theorem dX12_runs_7 : decode cX12_runs 7 = .ok (.aload_n 0, 1) := by decide +kernel
theorem dX12_runs_8 : decode cX12_runs 8 = .ok (.aload_n 0, 1) := by decide +kernel
theorem dX12_runs_9 : decode cX12_runs 9 = .ok (.getfield 45, 3) := by decide +kernel
theorem dX12_runs_12 : decode cX12_runs 12 = .ok (.bipush 6, 2) := by decide +kernel
theorem dX12_runs_14 : decode cX12_runs 14 = .ok (.iaload, 1) := by decide +kernel
theorem dX12_runs_15 : decode cX12_runs 15 = .ok (.ifCond .ne 7, 3) := by decide +kernel
theorem dX12_runs_18 : decode cX12_runs 18 = .ok (.iload_n 1, 1) := by decide +kernel
theorem dX12_runs_19 : decode cX12_runs 19 = .ok (.goto 4, 3) := by decide +kernel
theorem dX12_runs_22 : decode cX12_runs 22 = .ok (.iload_n 2, 1) := by decide +kernel
theorem dX12_runs_23 : decode cX12_runs 23 = .ok (.invokevirtual 330, 3) := by decide +kernel
theorem dX12_runs_26 : decode cX12_runs 26 = .ok (.istore_n 3, 1) := by decide +kernel
theorem dX12_runs_27 : decode cX12_runs 27 = .ok (.iload_n 3, 1) := by decide +kernel
theorem dX12_runs_28 : decode cX12_runs 28 = .ok (.ifCond .lt 13, 3) := by decide +kernel
theorem dX12_runs_31 : decode cX12_runs 31 = .ok (.aload_n 0, 1) := by decide +kernel
theorem dX12_runs_32 : decode cX12_runs 32 = .ok (.getfield 20, 3) := by decide +kernel
theorem dX12_runs_35 : decode cX12_runs 35 = .ok (.iload_n 3, 1) := by decide +kernel
theorem dX12_runs_36 : decode cX12_runs 36 = .ok (.iaload, 1) := by decide +kernel
theorem dX12_runs_37 : decode cX12_runs 37 = .ok (.iconst 2, 1) := by decide +kernel
theorem dX12_runs_38 : decode cX12_runs 38 = .ok (.if_icmp .ne 19, 3) := by decide +kernel
theorem dX12_runs_41 : decode cX12_runs 41 = .ok (.aload_n 0, 1) := by decide +kernel
theorem dX12_runs_42 : decode cX12_runs 42 = .ok (.getfield 45, 3) := by decide +kernel
theorem dX12_runs_45 : decode cX12_runs 45 = .ok (.bipush 7, 2) := by decide +kernel
theorem dX12_runs_47 : decode cX12_runs 47 = .ok (.dup2, 1) := by decide +kernel
theorem dX12_runs_48 : decode cX12_runs 48 = .ok (.iaload, 1) := by decide +kernel
theorem dX12_runs_49 : decode cX12_runs 49 = .ok (.iconst 1, 1) := by decide +kernel
theorem dX12_runs_50 : decode cX12_runs 50 = .ok (.iadd, 1) := by decide +kernel
theorem dX12_runs_51 : decode cX12_runs 51 = .ok (.iastore, 1) := by decide +kernel
theorem dX12_runs_52 : decode cX12_runs 52 = .ok (.aload_n 0, 1) := by decide +kernel
theorem dX12_runs_53 : decode cX12_runs 53 = .ok (.invokevirtual 292, 3) := by decide +kernel
theorem dX12_runs_56 : decode cX12_runs 56 = .ok (.ireturn, 1) := by decide +kernel
theorem dX12_runs_57 : decode cX12_runs 57 = .ok (.aload_n 0, 1) := by decide +kernel
theorem dX12_runs_58 : decode cX12_runs 58 = .ok (.getfield 20, 3) := by decide +kernel
theorem dX12_runs_61 : decode cX12_runs 61 = .ok (.iload_n 3, 1) := by decide +kernel
theorem dX12_runs_62 : decode cX12_runs 62 = .ok (.iaload, 1) := by decide +kernel
theorem dX12_runs_63 : decode cX12_runs 63 = .ok (.ifCond .ne 18, 3) := by decide +kernel
theorem dX12_runs_66 : decode cX12_runs 66 = .ok (.aload_n 0, 1) := by decide +kernel
theorem dX12_runs_67 : decode cX12_runs 67 = .ok (.aload_n 0, 1) := by decide +kernel
theorem dX12_runs_68 : decode cX12_runs 68 = .ok (.getfield 20, 3) := by decide +kernel
theorem dX12_runs_71 : decode cX12_runs 71 = .ok (.iload_n 3, 1) := by decide +kernel
theorem dX12_runs_72 : decode cX12_runs 72 = .ok (.iconst 1, 1) := by decide +kernel
theorem dX12_runs_73 : decode cX12_runs 73 = .ok (.iadd, 1) := by decide +kernel
theorem dX12_runs_74 : decode cX12_runs 74 = .ok (.iaload, 1) := by decide +kernel
theorem dX12_runs_75 : decode cX12_runs 75 = .ok (.invokevirtual 310, 3) := by decide +kernel
theorem dX12_runs_78 : decode cX12_runs 78 = .ok (.goto 7, 3) := by decide +kernel
theorem dX12_runs_81 : decode cX12_runs 81 = .ok (.aload_n 0, 1) := by decide +kernel
theorem dX12_runs_82 : decode cX12_runs 82 = .ok (.invokevirtual 313, 3) := by decide +kernel
theorem dX12_runs_85 : decode cX12_runs 85 = .ok (.goto (-85), 3) := by decide +kernel
theorem dX12_runs_88 : decode cX12_runs 88 = .ok (.aload_n 0, 1) := by decide +kernel
theorem dX12_runs_89 : decode cX12_runs 89 = .ok (.getfield 286, 3) := by decide +kernel
theorem dX12_runs_92 : decode cX12_runs 92 = .ok (.ireturn, 1) := by decide +kernel
set_option maxRecDepth 20000 in
theorem ggX12_areRules_X12_isRule : GoodIn wsX12_areRules wsX12_isRule := goodIn_r _ [5, 6, 7, 8, 9, 10, 11, 12, 13, 14, 15, 16, 17, 18, 19, 20, 21, 22, 23, 24, 25, 26, 27, 28, 29, 30, 31, 32, 33, 34, 35, 36, 37, 38, 39, 40, 41, 42, 43] (by decide +kernel) (by decide +kernel)
set_option maxRecDepth 20000 in
theorem gX12_areRules_X12_isRule : GoodIn wsX12_areRules (wsV RX12 333 RX12 yX12_isRule wsX12_isRule) := goodIn_app (goodIn_of _ (by decide +kernel)) ggX12_areRules_X12_isRule
theorem dX12_areRules_0 : decode cX12_areRules 0 = .ok (.iload_n 1, 1) := by decide +kernel
theorem dX12_areRules_1 : decode cX12_areRules 1 = .ok (.iconst (-1), 1) := by decide +kernel
theorem dX12_areRules_2 : decode cX12_areRules 2 = .ok (.if_icmp .eq 11, 3) := by decide +kernel
theorem dX12_areRules_5 : decode cX12_areRules 5 = .ok (.aload_n 0, 1) := by decide +kernel
theorem dX12_areRules_6 : decode cX12_areRules 6 = .ok (.iload_n 1, 1) := by decide +kernel
theorem dX12_areRules_7 : decode cX12_areRules 7 = .ok (.invokevirtual 333, 3) := by decide +kernel
theorem dX12_areRules_10 : decode cX12_areRules 10 = .ok (.ifCond .eq 20, 3) := by decide +kernel
theorem dX12_areRules_13 : decode cX12_areRules 13 = .ok (.iload_n 2, 1) := by decide +kernel
theorem dX12_areRules_14 : decode cX12_areRules 14 = .ok (.iconst (-1), 1) := by decide +kernel
theorem dX12_areRules_15 : decode cX12_areRules 15 = .ok (.if_icmp .eq 11, 3) := by decide +kernel
theorem dX12_areRules_18 : decode cX12_areRules 18 = .ok (.aload_n 0, 1) := by decide +kernel
theorem dX12_areRules_19 : decode cX12_areRules 19 = .ok (.iload_n 2, 1) := by decide +kernel
theorem dX12_areRules_20 : decode cX12_areRules 20 = .ok (.invokevirtual 333, 3) := by decide +kernel
theorem dX12_areRules_23 : decode cX12_areRules 23 = .ok (.ifCond .eq 7, 3) := by decide +kernel
theorem dX12_areRules_26 : decode cX12_areRules 26 = .ok (.iconst 1, 1) := by decide +kernel
theorem dX12_areRules_27 : decode cX12_areRules 27 = .ok (.goto 4, 3) := by decide +kernel
theorem dX12_areRules_30 : decode cX12_areRules 30 = .ok (.iconst 0, 1) := by decide +kernel
theorem dX12_areRules_31 : decode cX12_areRules 31 = .ok (.ireturn, 1) := by decide +kernel
set_option maxRecDepth 20000 in
theorem ggX12_run_X12_goesOn : GoodIn wsX12_run wsX12_goesOn := goodIn_r _ [5, 6, 82, 83, 84, 85, 86, 87, 88, 89, 90, 91, 92, 93, 94, 95, 96, 97, 98, 99, 100, 101, 102, 103, 104, 105, 106, 107, 108, 109, 110, 111, 112, 113, 114, 115, 116, 117, 118] (by decide +kernel) (by decide +kernel)
set_option maxRecDepth 20000 in
theorem gX12_run_X12_goesOn : GoodIn wsX12_run (wsV RX12 307 RX12 yX12_goesOn wsX12_goesOn) := goodIn_app (goodIn_of _ (by decide +kernel)) ggX12_run_X12_goesOn
set_option maxRecDepth 20000 in
theorem ggX12_run_X12_areRules : GoodIn wsX12_run wsX12_areRules := goodIn_r _ [10, 11, 12, 13, 4, 14, 15, 82, 83, 84, 85, 86, 87, 88, 89, 90, 91, 92, 93, 94, 95, 96, 97, 98, 99, 100, 101, 102, 103, 104, 105, 106, 107, 108, 109, 110, 111, 112, 113, 114, 115, 116, 117, 118] (by decide +kernel) (by decide +kernel)
set_option maxRecDepth 20000 in
theorem gX12_run_X12_areRules : GoodIn wsX12_run (wsV RX12 336 RX12 yX12_areRules wsX12_areRules) := goodIn_app (goodIn_of _ (by decide +kernel)) ggX12_run_X12_areRules
set_option maxRecDepth 20000 in
theorem ggX12_run_X12_runs : GoodIn wsX12_run wsX12_runs := goodIn_r _ [19, 6, 20, 21, 1, 2, 3, 4, 5, 22, 23, 24, 25, 26, 27, 28, 29, 30, 31, 32, 33, 34, 35, 36, 37, 38, 39, 40, 41, 42, 43, 44, 45, 46, 47, 48, 49, 50, 51, 52, 53, 54, 55, 56, 57, 58, 59, 60, 61, 62, 63, 64, 65, 66, 67, 68, 69, 70, 71, 72, 73, 74, 75, 76, 77, 78, 79, 80, 81, 82, 83, 84, 85, 86, 87, 88, 89, 90, 91, 92, 93, 94, 95, 96, 97, 98, 99, 100, 101, 102, 103, 104, 105, 106, 107, 108, 109, 110, 111, 112, 113, 114, 115, 116, 117, 118] (by decide +kernel) (by decide +kernel)
set_option maxRecDepth 20000 in
theorem gX12_run_X12_runs : GoodIn wsX12_run (wsV RX12 339 RX12 yX12_runs wsX12_runs) := goodIn_app (goodIn_of _ (by decide +kernel)) ggX12_run_X12_runs
theorem dX12_run_0 : decode cX12_run 0 = .ok (.aload_n 0, 1) := by decide +kernel
theorem dX12_run_1 : decode cX12_run 1 = .ok (.invokevirtual 307, 3) := by decide +kernel
theorem dX12_run_4 : decode cX12_run 4 = .ok (.ifCond .eq 21, 3) := by decide +kernel
theorem dX12_run_7 : decode cX12_run 7 = .ok (.aload_n 0, 1) := by decide +kernel
theorem dX12_run_8 : decode cX12_run 8 = .ok (.iload_n 1, 1) := by decide +kernel
theorem dX12_run_9 : decode cX12_run 9 = .ok (.iload_n 2, 1) := by decide +kernel
theorem dX12_run_10 : decode cX12_run 10 = .ok (.invokevirtual 336, 3) := by decide +kernel
theorem dX12_run_13 : decode cX12_run 13 = .ok (.ifCond .eq 12, 3) := by decide +kernel
theorem dX12_run_16 : decode cX12_run 16 = .ok (.aload_n 0, 1) := by decide +kernel
theorem dX12_run_17 : decode cX12_run 17 = .ok (.iload_n 1, 1) := by decide +kernel
theorem dX12_run_18 : decode cX12_run 18 = .ok (.iload_n 2, 1) := by decide +kernel
theorem dX12_run_19 : decode cX12_run 19 = .ok (.invokevirtual 339, 3) := by decide +kernel
theorem dX12_run_22 : decode cX12_run 22 = .ok (.goto 5, 3) := by decide +kernel
theorem dX12_run_25 : decode cX12_run 25 = .ok (.bipush (-2), 2) := by decide +kernel
theorem dX12_run_27 : decode cX12_run 27 = .ok (.ireturn, 1) := by decide +kernel
theorem dX12_keeps_0 : decode cX12_keeps 0 = .ok (.iconst 0, 1) := by decide +kernel
theorem dX12_keeps_1 : decode cX12_keeps 1 = .ok (.istore_n 1, 1) := by decide +kernel
theorem dX12_keeps_2 : decode cX12_keeps 2 = .ok (.iload_n 1, 1) := by decide +kernel
theorem dX12_keeps_3 : decode cX12_keeps 3 = .ok (.bipush 44, 2) := by decide +kernel
theorem dX12_keeps_5 : decode cX12_keeps 5 = .ok (.if_icmp .ge 21, 3) := by decide +kernel
theorem dX12_keeps_8 : decode cX12_keeps 8 = .ok (.aload_n 0, 1) := by decide +kernel
theorem dX12_keeps_9 : decode cX12_keeps 9 = .ok (.getfield 48, 3) := by decide +kernel
theorem dX12_keeps_12 : decode cX12_keeps 12 = .ok (.iload_n 1, 1) := by decide +kernel
theorem dX12_keeps_13 : decode cX12_keeps 13 = .ok (.aload_n 0, 1) := by decide +kernel
theorem dX12_keeps_14 : decode cX12_keeps 14 = .ok (.getfield 45, 3) := by decide +kernel
theorem dX12_keeps_17 : decode cX12_keeps 17 = .ok (.iload_n 1, 1) := by decide +kernel
theorem dX12_keeps_18 : decode cX12_keeps 18 = .ok (.iaload, 1) := by decide +kernel
theorem dX12_keeps_19 : decode cX12_keeps 19 = .ok (.iastore, 1) := by decide +kernel
theorem dX12_keeps_20 : decode cX12_keeps 20 = .ok (.iinc 1 1, 3) := by decide +kernel
theorem dX12_keeps_23 : decode cX12_keeps 23 = .ok (.goto (-21), 3) := by decide +kernel
theorem dX12_keeps_26 : decode cX12_keeps 26 = .ok (.return_, 1) := by decide +kernel
theorem dX12_putsBack_0 : decode cX12_putsBack 0 = .ok (.iconst 0, 1) := by decide +kernel
theorem dX12_putsBack_1 : decode cX12_putsBack 1 = .ok (.istore_n 1, 1) := by decide +kernel
theorem dX12_putsBack_2 : decode cX12_putsBack 2 = .ok (.iload_n 1, 1) := by decide +kernel
theorem dX12_putsBack_3 : decode cX12_putsBack 3 = .ok (.bipush 44, 2) := by decide +kernel
theorem dX12_putsBack_5 : decode cX12_putsBack 5 = .ok (.if_icmp .ge 21, 3) := by decide +kernel
theorem dX12_putsBack_8 : decode cX12_putsBack 8 = .ok (.aload_n 0, 1) := by decide +kernel
theorem dX12_putsBack_9 : decode cX12_putsBack 9 = .ok (.getfield 45, 3) := by decide +kernel
theorem dX12_putsBack_12 : decode cX12_putsBack 12 = .ok (.iload_n 1, 1) := by decide +kernel
theorem dX12_putsBack_13 : decode cX12_putsBack 13 = .ok (.aload_n 0, 1) := by decide +kernel
theorem dX12_putsBack_14 : decode cX12_putsBack 14 = .ok (.getfield 48, 3) := by decide +kernel
theorem dX12_putsBack_17 : decode cX12_putsBack 17 = .ok (.iload_n 1, 1) := by decide +kernel
theorem dX12_putsBack_18 : decode cX12_putsBack 18 = .ok (.iaload, 1) := by decide +kernel
theorem dX12_putsBack_19 : decode cX12_putsBack 19 = .ok (.iastore, 1) := by decide +kernel
theorem dX12_putsBack_20 : decode cX12_putsBack 20 = .ok (.iinc 1 1, 3) := by decide +kernel
theorem dX12_putsBack_23 : decode cX12_putsBack 23 = .ok (.goto (-21), 3) := by decide +kernel
theorem dX12_putsBack_26 : decode cX12_putsBack 26 = .ok (.return_, 1) := by decide +kernel
set_option maxRecDepth 20000 in
theorem ggX12_would_X12_goesOn : GoodIn wsX12_would wsX12_goesOn := goodIn_r _ [8, 2, 95, 96, 97, 98, 99, 100, 101, 102, 103, 104, 105, 106, 107, 108, 109, 110, 111, 112, 113, 114, 115, 116, 117, 118, 119, 120, 121, 122, 123, 124, 125, 126, 127, 128, 129, 130, 131] (by decide +kernel) (by decide +kernel)
set_option maxRecDepth 20000 in
theorem gX12_would_X12_goesOn : GoodIn wsX12_would (wsV RX12 307 RX12 yX12_goesOn wsX12_goesOn) := goodIn_app (goodIn_of _ (by decide +kernel)) ggX12_would_X12_goesOn
set_option maxRecDepth 20000 in
theorem ggX12_would_X12_areRules : GoodIn wsX12_would wsX12_areRules := goodIn_r _ [12, 13, 14, 15, 7, 16, 17, 95, 96, 97, 98, 99, 100, 101, 102, 103, 104, 105, 106, 107, 108, 109, 110, 111, 112, 113, 114, 115, 116, 117, 118, 119, 120, 121, 122, 123, 124, 125, 126, 127, 128, 129, 130, 131] (by decide +kernel) (by decide +kernel)
set_option maxRecDepth 20000 in
theorem gX12_would_X12_areRules : GoodIn wsX12_would (wsV RX12 336 RX12 yX12_areRules wsX12_areRules) := goodIn_app (goodIn_of _ (by decide +kernel)) ggX12_would_X12_areRules
set_option maxRecDepth 20000 in
theorem ggX12_would_X12_in : GoodIn wsX12_would wsX12_in := goodIn_r _ [20] (by decide +kernel) (by decide +kernel)
set_option maxRecDepth 20000 in
theorem gX12_would_X12_in : GoodIn wsX12_would (va_wsS RX12 115 yX12_in wsX12_in) := goodIn_app (goodIn_of _ (by decide +kernel)) ggX12_would_X12_in
set_option maxRecDepth 20000 in
theorem ggX12_would_X12_keeps : GoodIn wsX12_would wsX12_keeps := goodIn_r _ [24, 3, 2, 95, 96, 97, 98, 99, 100, 101, 102, 103, 104, 105, 106, 107, 108, 109, 110, 111, 112, 113, 114, 115, 116, 117, 118, 119, 120, 121, 122, 123, 124, 125, 126, 127, 128, 129, 130, 131] (by decide +kernel) (by decide +kernel)
set_option maxRecDepth 20000 in
theorem gX12_would_X12_keeps : GoodIn wsX12_would (wsV RX12 343 RX12 yX12_keeps wsX12_keeps) := goodIn_app (goodIn_of _ (by decide +kernel)) ggX12_would_X12_keeps
set_option maxRecDepth 20000 in
theorem ggX12_would_X12_runs : GoodIn wsX12_would wsX12_runs := goodIn_r _ [28, 2, 29, 30, 4, 5, 6, 7, 8, 31, 32, 33, 34, 35, 36, 37, 38, 39, 40, 41, 42, 43, 44, 45, 46, 47, 48, 49, 50, 51, 52, 53, 54, 55, 56, 57, 58, 59, 60, 61, 62, 63, 64, 65, 66, 67, 68, 69, 70, 71, 72, 73, 74, 75, 76, 77, 78, 79, 80, 81, 82, 83, 84, 85, 86, 87, 88, 89, 90, 95, 96, 97, 98, 99, 100, 101, 102, 103, 104, 105, 106, 107, 108, 109, 110, 111, 112, 113, 114, 115, 116, 117, 118, 119, 120, 121, 122, 123, 124, 125, 126, 127, 128, 129, 130, 131] (by decide +kernel) (by decide +kernel)
set_option maxRecDepth 20000 in
theorem gX12_would_X12_runs : GoodIn wsX12_would (wsV RX12 339 RX12 yX12_runs wsX12_runs) := goodIn_app (goodIn_of _ (by decide +kernel)) ggX12_would_X12_runs
set_option maxRecDepth 20000 in
theorem ggX12_would_X12_putsBack : GoodIn wsX12_would wsX12_putsBack := goodIn_r _ [94, 2, 3, 95, 96, 97, 98, 99, 100, 101, 102, 103, 104, 105, 106, 107, 108, 109, 110, 111, 112, 113, 114, 115, 116, 117, 118, 119, 120, 121, 122, 123, 124, 125, 126, 127, 128, 129, 130, 131] (by decide +kernel) (by decide +kernel)
set_option maxRecDepth 20000 in
theorem gX12_would_X12_putsBack : GoodIn wsX12_would (wsV RX12 346 RX12 yX12_putsBack wsX12_putsBack) := goodIn_app (goodIn_of _ (by decide +kernel)) ggX12_would_X12_putsBack
theorem dX12_would_0 : decode cX12_would 0 = .ok (.aload_n 0, 1) := by decide +kernel
theorem dX12_would_1 : decode cX12_would 1 = .ok (.invokevirtual 307, 3) := by decide +kernel
theorem dX12_would_4 : decode cX12_would 4 = .ok (.ifCond .eq 24, 3) := by decide +kernel
theorem dX12_would_7 : decode cX12_would 7 = .ok (.aload_n 0, 1) := by decide +kernel
theorem dX12_would_8 : decode cX12_would 8 = .ok (.iload_n 1, 1) := by decide +kernel
theorem dX12_would_9 : decode cX12_would 9 = .ok (.iload_n 2, 1) := by decide +kernel
theorem dX12_would_10 : decode cX12_would 10 = .ok (.invokevirtual 336, 3) := by decide +kernel
theorem dX12_would_13 : decode cX12_would 13 = .ok (.ifCond .eq 15, 3) := by decide +kernel
theorem dX12_would_16 : decode cX12_would 16 = .ok (.iload_n 3, 1) := by decide +kernel
theorem dX12_would_17 : decode cX12_would 17 = .ok (.i2l, 1) := by decide +kernel
theorem dX12_would_18 : decode cX12_would 18 = .ok (.lconst 0, 1) := by decide +kernel
theorem dX12_would_19 : decode cX12_would 19 = .ok (.ldc2_w 319, 3) := by decide +kernel
theorem dX12_would_22 : decode cX12_would 22 = .ok (.invokestatic 115, 3) := by decide +kernel
theorem dX12_would_25 : decode cX12_would 25 = .ok (.ifCond .ne 6, 3) := by decide +kernel
theorem dX12_would_28 : decode cX12_would 28 = .ok (.bipush (-2), 2) := by decide +kernel
theorem dX12_would_30 : decode cX12_would 30 = .ok (.ireturn, 1) := by decide +kernel
theorem dX12_would_31 : decode cX12_would 31 = .ok (.aload_n 0, 1) := by decide +kernel
theorem dX12_would_32 : decode cX12_would 32 = .ok (.invokevirtual 343, 3) := by decide +kernel
theorem dX12_would_35 : decode cX12_would 35 = .ok (.aload_n 0, 1) := by decide +kernel
theorem dX12_would_36 : decode cX12_would 36 = .ok (.iload_n 1, 1) := by decide +kernel
theorem dX12_would_37 : decode cX12_would 37 = .ok (.iload_n 2, 1) := by decide +kernel
theorem dX12_would_38 : decode cX12_would 38 = .ok (.invokevirtual 339, 3) := by decide +kernel
theorem dX12_would_41 : decode cX12_would 41 = .ok (.istore 4, 2) := by decide +kernel
theorem dX12_would_43 : decode cX12_would 43 = .ok (.iload_n 3, 1) := by decide +kernel
theorem dX12_would_44 : decode cX12_would 44 = .ok (.ifCond .ne 8, 3) := by decide +kernel
theorem dX12_would_47 : decode cX12_would 47 = .ok (.iload 4, 2) := by decide +kernel
theorem dX12_would_49 : decode cX12_would 49 = .ok (.goto 55, 3) := by decide +kernel
theorem dX12_would_52 : decode cX12_would 52 = .ok (.iload_n 3, 1) := by decide +kernel
theorem dX12_would_53 : decode cX12_would 53 = .ok (.iconst 1, 1) := by decide +kernel
theorem dX12_would_54 : decode cX12_would 54 = .ok (.if_icmp .ne 21, 3) := by decide +kernel
theorem dX12_would_57 : decode cX12_would 57 = .ok (.aload_n 0, 1) := by decide +kernel
theorem dX12_would_58 : decode cX12_would 58 = .ok (.getfield 45, 3) := by decide +kernel
theorem dX12_would_61 : decode cX12_would 61 = .ok (.bipush 7, 2) := by decide +kernel
theorem dX12_would_63 : decode cX12_would 63 = .ok (.iaload, 1) := by decide +kernel
theorem dX12_would_64 : decode cX12_would 64 = .ok (.aload_n 0, 1) := by decide +kernel
theorem dX12_would_65 : decode cX12_would 65 = .ok (.getfield 48, 3) := by decide +kernel
theorem dX12_would_68 : decode cX12_would 68 = .ok (.bipush 7, 2) := by decide +kernel
theorem dX12_would_70 : decode cX12_would 70 = .ok (.iaload, 1) := by decide +kernel
theorem dX12_would_71 : decode cX12_would 71 = .ok (.isub, 1) := by decide +kernel
theorem dX12_would_72 : decode cX12_would 72 = .ok (.goto 32, 3) := by decide +kernel
theorem dX12_would_75 : decode cX12_would 75 = .ok (.iload_n 3, 1) := by decide +kernel
theorem dX12_would_76 : decode cX12_would 76 = .ok (.iconst 2, 1) := by decide +kernel
theorem dX12_would_77 : decode cX12_would 77 = .ok (.if_icmp .ne 21, 3) := by decide +kernel
theorem dX12_would_80 : decode cX12_would 80 = .ok (.aload_n 0, 1) := by decide +kernel
theorem dX12_would_81 : decode cX12_would 81 = .ok (.getfield 45, 3) := by decide +kernel
theorem dX12_would_84 : decode cX12_would 84 = .ok (.bipush 9, 2) := by decide +kernel
theorem dX12_would_86 : decode cX12_would 86 = .ok (.iaload, 1) := by decide +kernel
theorem dX12_would_87 : decode cX12_would 87 = .ok (.aload_n 0, 1) := by decide +kernel
theorem dX12_would_88 : decode cX12_would 88 = .ok (.getfield 48, 3) := by decide +kernel
theorem dX12_would_91 : decode cX12_would 91 = .ok (.bipush 9, 2) := by decide +kernel
theorem dX12_would_93 : decode cX12_would 93 = .ok (.iaload, 1) := by decide +kernel
theorem dX12_would_94 : decode cX12_would 94 = .ok (.isub, 1) := by decide +kernel
theorem dX12_would_95 : decode cX12_would 95 = .ok (.goto 9, 3) := by decide +kernel
theorem dX12_would_98 : decode cX12_would 98 = .ok (.aload_n 0, 1) := by decide +kernel
theorem dX12_would_99 : decode cX12_would 99 = .ok (.getfield 45, 3) := by decide +kernel
theorem dX12_would_102 : decode cX12_would 102 = .ok (.iconst 5, 1) := by decide +kernel
theorem dX12_would_103 : decode cX12_would 103 = .ok (.iaload, 1) := by decide +kernel
theorem dX12_would_104 : decode cX12_would 104 = .ok (.istore 5, 2) := by decide +kernel
theorem dX12_would_106 : decode cX12_would 106 = .ok (.aload_n 0, 1) := by decide +kernel
theorem dX12_would_107 : decode cX12_would 107 = .ok (.invokevirtual 346, 3) := by decide +kernel
theorem dX12_would_110 : decode cX12_would 110 = .ok (.iload 5, 2) := by decide +kernel
theorem dX12_would_112 : decode cX12_would 112 = .ok (.ireturn, 1) := by decide +kernel
theorem dX12_placeOf_0 : decode cX12_placeOf 0 = .ok (.iload_n 0, 1) := by decide +kernel
theorem dX12_placeOf_1 : decode cX12_placeOf 1 = .ok (.bipush 8, 2) := by decide +kernel
theorem dX12_placeOf_3 : decode cX12_placeOf 3 = .ok (.imul, 1) := by decide +kernel
theorem dX12_placeOf_4 : decode cX12_placeOf 4 = .ok (.iload_n 1, 1) := by decide +kernel
theorem dX12_placeOf_5 : decode cX12_placeOf 5 = .ok (.iadd, 1) := by decide +kernel
theorem dX12_placeOf_6 : decode cX12_placeOf 6 = .ok (.bipush 8, 2) := by decide +kernel
theorem dX12_placeOf_8 : decode cX12_placeOf 8 = .ok (.imul, 1) := by decide +kernel
theorem dX12_placeOf_9 : decode cX12_placeOf 9 = .ok (.iload_n 2, 1) := by decide +kernel
theorem dX12_placeOf_10 : decode cX12_placeOf 10 = .ok (.iadd, 1) := by decide +kernel
theorem dX12_placeOf_11 : decode cX12_placeOf 11 = .ok (.ireturn, 1) := by decide +kernel
set_option maxRecDepth 20000 in
theorem ggX12_can_X12_placeOf : GoodIn wsX12_can wsX12_placeOf := goodIn_r _ [5] (by decide +kernel) (by decide +kernel)
set_option maxRecDepth 20000 in
theorem gX12_can_X12_placeOf : GoodIn wsX12_can (va_wsS RX12 349 yX12_placeOf wsX12_placeOf) := goodIn_app (goodIn_of _ (by decide +kernel)) ggX12_can_X12_placeOf
theorem dX12_can_0 : decode cX12_can 0 = .ok (.aload_n 0, 1) := by decide +kernel
theorem dX12_can_1 : decode cX12_can 1 = .ok (.getfield 51, 3) := by decide +kernel
theorem dX12_can_4 : decode cX12_can 4 = .ok (.iload_n 1, 1) := by decide +kernel
theorem dX12_can_5 : decode cX12_can 5 = .ok (.iload_n 2, 1) := by decide +kernel
theorem dX12_can_6 : decode cX12_can 6 = .ok (.iload_n 3, 1) := by decide +kernel
theorem dX12_can_7 : decode cX12_can 7 = .ok (.invokestatic 349, 3) := by decide +kernel
theorem dX12_can_10 : decode cX12_can 10 = .ok (.iaload, 1) := by decide +kernel
theorem dX12_can_11 : decode cX12_can 11 = .ok (.iconst 5, 1) := by decide +kernel
theorem dX12_can_12 : decode cX12_can 12 = .ok (.iload 4, 2) := by decide +kernel
theorem dX12_can_14 : decode cX12_can 14 = .ok (.imul, 1) := by decide +kernel
theorem dX12_can_15 : decode cX12_can 15 = .ok (.iload 5, 2) := by decide +kernel
theorem dX12_can_17 : decode cX12_can 17 = .ok (.iadd, 1) := by decide +kernel
theorem dX12_can_18 : decode cX12_can 18 = .ok (.ishr, 1) := by decide +kernel
theorem dX12_can_19 : decode cX12_can 19 = .ok (.iconst 1, 1) := by decide +kernel
theorem dX12_can_20 : decode cX12_can 20 = .ok (.iand, 1) := by decide +kernel
theorem dX12_can_21 : decode cX12_can 21 = .ok (.iconst 1, 1) := by decide +kernel
theorem dX12_can_22 : decode cX12_can 22 = .ok (.if_icmp .ne 7, 3) := by decide +kernel
theorem dX12_can_25 : decode cX12_can 25 = .ok (.iconst 1, 1) := by decide +kernel
theorem dX12_can_26 : decode cX12_can 26 = .ok (.goto 4, 3) := by decide +kernel
theorem dX12_can_29 : decode cX12_can 29 = .ok (.iconst 0, 1) := by decide +kernel
theorem dX12_can_30 : decode cX12_can 30 = .ok (.ireturn, 1) := by decide +kernel
set_option maxRecDepth 20000 in
theorem ggX12_hasWay_X12_can : GoodIn wsX12_hasWay wsX12_can := goodIn_r _ [6, 7, 8, 9, 5, 10, 11, 12, 13, 14, 15, 16, 17, 18, 19, 20, 21, 22, 23, 24, 25, 26, 27, 28, 29, 30, 31, 32, 33, 34, 35, 36, 37, 38, 39, 40, 41, 42, 43, 44, 45, 46, 47] (by decide +kernel) (by decide +kernel)
set_option maxRecDepth 20000 in
theorem gX12_hasWay_X12_can : GoodIn wsX12_hasWay (wsV RX12 353 RX12 yX12_can wsX12_can) := goodIn_app (goodIn_of _ (by decide +kernel)) ggX12_hasWay_X12_can
theorem dX12_hasWay_0 : decode cX12_hasWay 0 = .ok (.iconst 0, 1) := by decide +kernel
theorem dX12_hasWay_1 : decode cX12_hasWay 1 = .ok (.istore 7, 2) := by decide +kernel
theorem dX12_hasWay_3 : decode cX12_hasWay 3 = .ok (.iload 7, 2) := by decide +kernel
theorem dX12_hasWay_5 : decode cX12_hasWay 5 = .ok (.aload_n 0, 1) := by decide +kernel
theorem dX12_hasWay_6 : decode cX12_hasWay 6 = .ok (.getfield 45, 3) := by decide +kernel
theorem dX12_hasWay_9 : decode cX12_hasWay 9 = .ok (.iconst 1, 1) := by decide +kernel
theorem dX12_hasWay_10 : decode cX12_hasWay 10 = .ok (.iaload, 1) := by decide +kernel
theorem dX12_hasWay_11 : decode cX12_hasWay 11 = .ok (.if_icmp .ge 64, 3) := by decide +kernel
theorem dX12_hasWay_14 : decode cX12_hasWay 14 = .ok (.iload_n 2, 1) := by decide +kernel
theorem dX12_hasWay_15 : decode cX12_hasWay 15 = .ok (.aload_n 0, 1) := by decide +kernel
theorem dX12_hasWay_16 : decode cX12_hasWay 16 = .ok (.getfield 45, 3) := by decide +kernel
theorem dX12_hasWay_19 : decode cX12_hasWay 19 = .ok (.bipush 28, 2) := by decide +kernel
theorem dX12_hasWay_21 : decode cX12_hasWay 21 = .ok (.iload 7, 2) := by decide +kernel
theorem dX12_hasWay_23 : decode cX12_hasWay 23 = .ok (.iadd, 1) := by decide +kernel
theorem dX12_hasWay_24 : decode cX12_hasWay 24 = .ok (.iaload, 1) := by decide +kernel
theorem dX12_hasWay_25 : decode cX12_hasWay 25 = .ok (.isub, 1) := by decide +kernel
theorem dX12_hasWay_26 : decode cX12_hasWay 26 = .ok (.iload 7, 2) := by decide +kernel
theorem dX12_hasWay_28 : decode cX12_hasWay 28 = .ok (.iload 5, 2) := by decide +kernel
theorem dX12_hasWay_30 : decode cX12_hasWay 30 = .ok (.if_icmp .ne 12, 3) := by decide +kernel
theorem dX12_hasWay_33 : decode cX12_hasWay 33 = .ok (.aload_n 0, 1) := by decide +kernel
theorem dX12_hasWay_34 : decode cX12_hasWay 34 = .ok (.getfield 45, 3) := by decide +kernel
theorem dX12_hasWay_37 : decode cX12_hasWay 37 = .ok (.iconst 2, 1) := by decide +kernel
theorem dX12_hasWay_38 : decode cX12_hasWay 38 = .ok (.iaload, 1) := by decide +kernel
theorem dX12_hasWay_39 : decode cX12_hasWay 39 = .ok (.goto 4, 3) := by decide +kernel
theorem dX12_hasWay_42 : decode cX12_hasWay 42 = .ok (.iconst 0, 1) := by decide +kernel
theorem dX12_hasWay_43 : decode cX12_hasWay 43 = .ok (.isub, 1) := by decide +kernel
theorem dX12_hasWay_44 : decode cX12_hasWay 44 = .ok (.istore 8, 2) := by decide +kernel
theorem dX12_hasWay_46 : decode cX12_hasWay 46 = .ok (.iload 8, 2) := by decide +kernel
theorem dX12_hasWay_48 : decode cX12_hasWay 48 = .ok (.ifCond .lt 21, 3) := by decide +kernel
theorem dX12_hasWay_51 : decode cX12_hasWay 51 = .ok (.aload_n 0, 1) := by decide +kernel
theorem dX12_hasWay_52 : decode cX12_hasWay 52 = .ok (.iload 8, 2) := by decide +kernel
theorem dX12_hasWay_54 : decode cX12_hasWay 54 = .ok (.iload 4, 2) := by decide +kernel
theorem dX12_hasWay_56 : decode cX12_hasWay 56 = .ok (.iload_n 3, 1) := by decide +kernel
theorem dX12_hasWay_57 : decode cX12_hasWay 57 = .ok (.iload 6, 2) := by decide +kernel
theorem dX12_hasWay_59 : decode cX12_hasWay 59 = .ok (.iload 7, 2) := by decide +kernel
theorem dX12_hasWay_61 : decode cX12_hasWay 61 = .ok (.invokevirtual 353, 3) := by decide +kernel
theorem dX12_hasWay_64 : decode cX12_hasWay 64 = .ok (.ifCond .ne 5, 3) := by decide +kernel
theorem dX12_hasWay_67 : decode cX12_hasWay 67 = .ok (.iconst 1, 1) := by decide +kernel
theorem dX12_hasWay_68 : decode cX12_hasWay 68 = .ok (.ireturn, 1) := by decide +kernel
theorem dX12_hasWay_69 : decode cX12_hasWay 69 = .ok (.iinc 7 1, 3) := by decide +kernel
theorem dX12_hasWay_72 : decode cX12_hasWay 72 = .ok (.goto (-69), 3) := by decide +kernel
theorem dX12_hasWay_75 : decode cX12_hasWay 75 = .ok (.iload_n 3, 1) := by decide +kernel
theorem dX12_hasWay_76 : decode cX12_hasWay 76 = .ok (.ifCond .le 35, 3) := by decide +kernel
theorem dX12_hasWay_79 : decode cX12_hasWay 79 = .ok (.iload_n 2, 1) := by decide +kernel
theorem dX12_hasWay_80 : decode cX12_hasWay 80 = .ok (.iload_n 1, 1) := by decide +kernel
theorem dX12_hasWay_81 : decode cX12_hasWay 81 = .ok (.iadd, 1) := by decide +kernel
theorem dX12_hasWay_82 : decode cX12_hasWay 82 = .ok (.sipush 200, 3) := by decide +kernel
theorem dX12_hasWay_85 : decode cX12_hasWay 85 = .ok (.if_icmp .gt 26, 3) := by decide +kernel
theorem dX12_hasWay_88 : decode cX12_hasWay 88 = .ok (.aload_n 0, 1) := by decide +kernel
theorem dX12_hasWay_89 : decode cX12_hasWay 89 = .ok (.iload_n 2, 1) := by decide +kernel
theorem dX12_hasWay_90 : decode cX12_hasWay 90 = .ok (.iload_n 1, 1) := by decide +kernel
theorem dX12_hasWay_91 : decode cX12_hasWay 91 = .ok (.iadd, 1) := by decide +kernel
theorem dX12_hasWay_92 : decode cX12_hasWay 92 = .ok (.iload_n 3, 1) := by decide +kernel
theorem dX12_hasWay_93 : decode cX12_hasWay 93 = .ok (.iconst 1, 1) := by decide +kernel
theorem dX12_hasWay_94 : decode cX12_hasWay 94 = .ok (.isub, 1) := by decide +kernel
theorem dX12_hasWay_95 : decode cX12_hasWay 95 = .ok (.iload 4, 2) := by decide +kernel
theorem dX12_hasWay_97 : decode cX12_hasWay 97 = .ok (.iload 5, 2) := by decide +kernel
theorem dX12_hasWay_99 : decode cX12_hasWay 99 = .ok (.iload 6, 2) := by decide +kernel
theorem dX12_hasWay_101 : decode cX12_hasWay 101 = .ok (.invokevirtual 353, 3) := by decide +kernel
theorem dX12_hasWay_104 : decode cX12_hasWay 104 = .ok (.ifCond .eq 7, 3) := by decide +kernel
theorem dX12_hasWay_107 : decode cX12_hasWay 107 = .ok (.iconst 1, 1) := by decide +kernel
theorem dX12_hasWay_108 : decode cX12_hasWay 108 = .ok (.goto 4, 3) := by decide +kernel
theorem dX12_hasWay_111 : decode cX12_hasWay 111 = .ok (.iconst 0, 1) := by decide +kernel
theorem dX12_hasWay_112 : decode cX12_hasWay 112 = .ok (.ireturn, 1) := by decide +kernel
set_option maxRecDepth 20000 in
theorem ggX12_fillsPlace_X12_hasWay : GoodIn wsX12_fillsPlace wsX12_hasWay := goodIn_r _ [6, 7, 8, 9, 10, 5, 11, 1, 12, 13, 14, 15, 16, 17, 18, 19, 20, 21, 22, 23, 24, 25, 26, 27, 28, 29, 30, 31, 32, 33, 34, 35, 36, 37, 38, 39, 40, 41, 42, 43, 44, 45, 46, 47, 48, 49, 50, 51] (by decide +kernel) (by decide +kernel)
set_option maxRecDepth 20000 in
theorem gX12_fillsPlace_X12_hasWay : GoodIn wsX12_fillsPlace (wsV RX12 357 RX12 yX12_hasWay wsX12_hasWay) := goodIn_app (goodIn_of _ (by decide +kernel)) ggX12_fillsPlace_X12_hasWay
set_option maxRecDepth 20000 in
theorem ggX12_fillsPlace_X12_placeOf : GoodIn wsX12_fillsPlace wsX12_placeOf := goodIn_r _ [14] (by decide +kernel) (by decide +kernel)
set_option maxRecDepth 20000 in
theorem gX12_fillsPlace_X12_placeOf : GoodIn wsX12_fillsPlace (va_wsS RX12 349 yX12_placeOf wsX12_placeOf) := goodIn_app (goodIn_of _ (by decide +kernel)) ggX12_fillsPlace_X12_placeOf
theorem dX12_fillsPlace_0 : decode cX12_fillsPlace 0 = .ok (.iconst 0, 1) := by decide +kernel
theorem dX12_fillsPlace_1 : decode cX12_fillsPlace 1 = .ok (.istore 5, 2) := by decide +kernel
theorem dX12_fillsPlace_3 : decode cX12_fillsPlace 3 = .ok (.iconst 0, 1) := by decide +kernel
theorem dX12_fillsPlace_4 : decode cX12_fillsPlace 4 = .ok (.istore 6, 2) := by decide +kernel
theorem dX12_fillsPlace_6 : decode cX12_fillsPlace 6 = .ok (.iload 6, 2) := by decide +kernel
theorem dX12_fillsPlace_8 : decode cX12_fillsPlace 8 = .ok (.iconst 5, 1) := by decide +kernel
theorem dX12_fillsPlace_9 : decode cX12_fillsPlace 9 = .ok (.if_icmp .ge 58, 3) := by decide +kernel
theorem dX12_fillsPlace_12 : decode cX12_fillsPlace 12 = .ok (.iconst 0, 1) := by decide +kernel
theorem dX12_fillsPlace_13 : decode cX12_fillsPlace 13 = .ok (.istore 7, 2) := by decide +kernel
theorem dX12_fillsPlace_15 : decode cX12_fillsPlace 15 = .ok (.iload 7, 2) := by decide +kernel
theorem dX12_fillsPlace_17 : decode cX12_fillsPlace 17 = .ok (.iconst 5, 1) := by decide +kernel
theorem dX12_fillsPlace_18 : decode cX12_fillsPlace 18 = .ok (.if_icmp .ge 43, 3) := by decide +kernel
theorem dX12_fillsPlace_21 : decode cX12_fillsPlace 21 = .ok (.iload 5, 2) := by decide +kernel
theorem dX12_fillsPlace_23 : decode cX12_fillsPlace 23 = .ok (.aload_n 0, 1) := by decide +kernel
theorem dX12_fillsPlace_24 : decode cX12_fillsPlace 24 = .ok (.iload_n 1, 1) := by decide +kernel
theorem dX12_fillsPlace_25 : decode cX12_fillsPlace 25 = .ok (.iload_n 2, 1) := by decide +kernel
theorem dX12_fillsPlace_26 : decode cX12_fillsPlace 26 = .ok (.iload_n 3, 1) := by decide +kernel
theorem dX12_fillsPlace_27 : decode cX12_fillsPlace 27 = .ok (.iload 4, 2) := by decide +kernel
theorem dX12_fillsPlace_29 : decode cX12_fillsPlace 29 = .ok (.iload 6, 2) := by decide +kernel
theorem dX12_fillsPlace_31 : decode cX12_fillsPlace 31 = .ok (.iload 7, 2) := by decide +kernel
theorem dX12_fillsPlace_33 : decode cX12_fillsPlace 33 = .ok (.invokevirtual 357, 3) := by decide +kernel
theorem dX12_fillsPlace_36 : decode cX12_fillsPlace 36 = .ok (.ifCond .eq 15, 3) := by decide +kernel
theorem dX12_fillsPlace_39 : decode cX12_fillsPlace 39 = .ok (.iconst 1, 1) := by decide +kernel
theorem dX12_fillsPlace_40 : decode cX12_fillsPlace 40 = .ok (.iconst 5, 1) := by decide +kernel
theorem dX12_fillsPlace_41 : decode cX12_fillsPlace 41 = .ok (.iload 6, 2) := by decide +kernel
theorem dX12_fillsPlace_43 : decode cX12_fillsPlace 43 = .ok (.imul, 1) := by decide +kernel
theorem dX12_fillsPlace_44 : decode cX12_fillsPlace 44 = .ok (.iload 7, 2) := by decide +kernel
theorem dX12_fillsPlace_46 : decode cX12_fillsPlace 46 = .ok (.iadd, 1) := by decide +kernel
theorem dX12_fillsPlace_47 : decode cX12_fillsPlace 47 = .ok (.ishl, 1) := by decide +kernel
theorem dX12_fillsPlace_48 : decode cX12_fillsPlace 48 = .ok (.goto 4, 3) := by decide +kernel
theorem dX12_fillsPlace_51 : decode cX12_fillsPlace 51 = .ok (.iconst 0, 1) := by decide +kernel
theorem dX12_fillsPlace_52 : decode cX12_fillsPlace 52 = .ok (.ior, 1) := by decide +kernel
theorem dX12_fillsPlace_53 : decode cX12_fillsPlace 53 = .ok (.istore 5, 2) := by decide +kernel
theorem dX12_fillsPlace_55 : decode cX12_fillsPlace 55 = .ok (.iinc 7 1, 3) := by decide +kernel
theorem dX12_fillsPlace_58 : decode cX12_fillsPlace 58 = .ok (.goto (-43), 3) := by decide +kernel
theorem dX12_fillsPlace_61 : decode cX12_fillsPlace 61 = .ok (.iinc 6 1, 3) := by decide +kernel
theorem dX12_fillsPlace_64 : decode cX12_fillsPlace 64 = .ok (.goto (-58), 3) := by decide +kernel
theorem dX12_fillsPlace_67 : decode cX12_fillsPlace 67 = .ok (.aload_n 0, 1) := by decide +kernel
theorem dX12_fillsPlace_68 : decode cX12_fillsPlace 68 = .ok (.getfield 51, 3) := by decide +kernel
theorem dX12_fillsPlace_71 : decode cX12_fillsPlace 71 = .ok (.iload_n 2, 1) := by decide +kernel
theorem dX12_fillsPlace_72 : decode cX12_fillsPlace 72 = .ok (.iload_n 3, 1) := by decide +kernel
theorem dX12_fillsPlace_73 : decode cX12_fillsPlace 73 = .ok (.iload 4, 2) := by decide +kernel
theorem dX12_fillsPlace_75 : decode cX12_fillsPlace 75 = .ok (.invokestatic 349, 3) := by decide +kernel
theorem dX12_fillsPlace_78 : decode cX12_fillsPlace 78 = .ok (.iload 5, 2) := by decide +kernel
theorem dX12_fillsPlace_80 : decode cX12_fillsPlace 80 = .ok (.iastore, 1) := by decide +kernel
theorem dX12_fillsPlace_81 : decode cX12_fillsPlace 81 = .ok (.return_, 1) := by decide +kernel
set_option maxRecDepth 20000 in
theorem ggX12_fillsTable_X12_in : GoodIn wsX12_fillsTable wsX12_in := goodIn_r _ [5] (by decide +kernel) (by decide +kernel)
set_option maxRecDepth 20000 in
theorem gX12_fillsTable_X12_in : GoodIn wsX12_fillsTable (va_wsS RX12 115 yX12_in wsX12_in) := goodIn_app (goodIn_of _ (by decide +kernel)) ggX12_fillsTable_X12_in
set_option maxRecDepth 20000 in
theorem ggX12_fillsTable_X12_fillsPlace : GoodIn wsX12_fillsTable wsX12_fillsPlace := goodIn_r _ [9, 10, 11, 12, 13, 4, 14, 15, 16, 17, 18, 19, 20, 21, 22, 23, 24, 25, 26, 27, 28, 29, 30, 31, 32, 33, 34, 35, 36, 37, 38, 39, 40, 41, 42, 43, 44, 45, 46, 47, 48, 49, 50, 51, 52, 53, 54, 55, 56, 57, 58, 59] (by decide +kernel) (by decide +kernel)
set_option maxRecDepth 20000 in
theorem gX12_fillsTable_X12_fillsPlace : GoodIn wsX12_fillsTable (wsV RX12 361 RX12 yX12_fillsPlace wsX12_fillsPlace) := goodIn_app (goodIn_of _ (by decide +kernel)) ggX12_fillsTable_X12_fillsPlace
theorem dX12_fillsTable_0 : decode cX12_fillsTable 0 = .ok (.iconst 0, 1) := by decide +kernel
theorem dX12_fillsTable_1 : decode cX12_fillsTable 1 = .ok (.istore_n 2, 1) := by decide +kernel
theorem dX12_fillsTable_2 : decode cX12_fillsTable 2 = .ok (.iload_n 2, 1) := by decide +kernel
theorem dX12_fillsTable_3 : decode cX12_fillsTable 3 = .ok (.bipush 14, 2) := by decide +kernel
theorem dX12_fillsTable_5 : decode cX12_fillsTable 5 = .ok (.if_icmp .gt 67, 3) := by decide +kernel
theorem dX12_fillsTable_8 : decode cX12_fillsTable 8 = .ok (.iconst 0, 1) := by decide +kernel
theorem dX12_fillsTable_9 : decode cX12_fillsTable 9 = .ok (.istore_n 3, 1) := by decide +kernel
theorem dX12_fillsTable_10 : decode cX12_fillsTable 10 = .ok (.iload_n 3, 1) := by decide +kernel
theorem dX12_fillsTable_11 : decode cX12_fillsTable 11 = .ok (.sipush 200, 3) := by decide +kernel
theorem dX12_fillsTable_14 : decode cX12_fillsTable 14 = .ok (.if_icmp .gt 52, 3) := by decide +kernel
theorem dX12_fillsTable_17 : decode cX12_fillsTable 17 = .ok (.iconst 0, 1) := by decide +kernel
theorem dX12_fillsTable_18 : decode cX12_fillsTable 18 = .ok (.istore 4, 2) := by decide +kernel
theorem dX12_fillsTable_20 : decode cX12_fillsTable 20 = .ok (.iload 4, 2) := by decide +kernel
theorem dX12_fillsTable_22 : decode cX12_fillsTable 22 = .ok (.bipush 7, 2) := by decide +kernel
theorem dX12_fillsTable_24 : decode cX12_fillsTable 24 = .ok (.if_icmp .gt 36, 3) := by decide +kernel
theorem dX12_fillsTable_27 : decode cX12_fillsTable 27 = .ok (.iload_n 2, 1) := by decide +kernel
theorem dX12_fillsTable_28 : decode cX12_fillsTable 28 = .ok (.iload 4, 2) := by decide +kernel
theorem dX12_fillsTable_30 : decode cX12_fillsTable 30 = .ok (.isub, 1) := by decide +kernel
theorem dX12_fillsTable_31 : decode cX12_fillsTable 31 = .ok (.i2l, 1) := by decide +kernel
theorem dX12_fillsTable_32 : decode cX12_fillsTable 32 = .ok (.lconst 0, 1) := by decide +kernel
theorem dX12_fillsTable_33 : decode cX12_fillsTable 33 = .ok (.ldc2_w 321, 3) := by decide +kernel
theorem dX12_fillsTable_36 : decode cX12_fillsTable 36 = .ok (.invokestatic 115, 3) := by decide +kernel
theorem dX12_fillsTable_39 : decode cX12_fillsTable 39 = .ok (.ifCond .eq 15, 3) := by decide +kernel
theorem dX12_fillsTable_42 : decode cX12_fillsTable 42 = .ok (.aload_n 0, 1) := by decide +kernel
theorem dX12_fillsTable_43 : decode cX12_fillsTable 43 = .ok (.iload_n 1, 1) := by decide +kernel
theorem dX12_fillsTable_44 : decode cX12_fillsTable 44 = .ok (.iload_n 3, 1) := by decide +kernel
theorem dX12_fillsTable_45 : decode cX12_fillsTable 45 = .ok (.iload 4, 2) := by decide +kernel
theorem dX12_fillsTable_47 : decode cX12_fillsTable 47 = .ok (.iload_n 2, 1) := by decide +kernel
theorem dX12_fillsTable_48 : decode cX12_fillsTable 48 = .ok (.iload 4, 2) := by decide +kernel
theorem dX12_fillsTable_50 : decode cX12_fillsTable 50 = .ok (.isub, 1) := by decide +kernel
theorem dX12_fillsTable_51 : decode cX12_fillsTable 51 = .ok (.invokevirtual 361, 3) := by decide +kernel
theorem dX12_fillsTable_54 : decode cX12_fillsTable 54 = .ok (.iinc 4 1, 3) := by decide +kernel
theorem dX12_fillsTable_57 : decode cX12_fillsTable 57 = .ok (.goto (-37), 3) := by decide +kernel
theorem dX12_fillsTable_60 : decode cX12_fillsTable 60 = .ok (.iinc 3 1, 3) := by decide +kernel
theorem dX12_fillsTable_63 : decode cX12_fillsTable 63 = .ok (.goto (-53), 3) := by decide +kernel
theorem dX12_fillsTable_66 : decode cX12_fillsTable 66 = .ok (.iinc 2 1, 3) := by decide +kernel
theorem dX12_fillsTable_69 : decode cX12_fillsTable 69 = .ok (.goto (-67), 3) := by decide +kernel
theorem dX12_fillsTable_72 : decode cX12_fillsTable 72 = .ok (.return_, 1) := by decide +kernel
theorem dX12_lastAs_0 : decode cX12_lastAs 0 = .ok (.iload_n 0, 1) := by decide +kernel
theorem dX12_lastAs_1 : decode cX12_lastAs 1 = .ok (.bipush 9, 2) := by decide +kernel
theorem dX12_lastAs_3 : decode cX12_lastAs 3 = .ok (.if_icmp .ne 7, 3) := by decide +kernel
theorem dX12_lastAs_6 : decode cX12_lastAs 6 = .ok (.iconst 4, 1) := by decide +kernel
theorem dX12_lastAs_7 : decode cX12_lastAs 7 = .ok (.goto 4, 3) := by decide +kernel
theorem dX12_lastAs_10 : decode cX12_lastAs 10 = .ok (.iload_n 0, 1) := by decide +kernel
theorem dX12_lastAs_11 : decode cX12_lastAs 11 = .ok (.ireturn, 1) := by decide +kernel
set_option maxRecDepth 20000 in
theorem ggX12_haver_X12_lastAs : GoodIn wsX12_haver wsX12_lastAs := goodIn_r _ [5] (by decide +kernel) (by decide +kernel)
set_option maxRecDepth 20000 in
theorem gX12_haver_X12_lastAs : GoodIn wsX12_haver (va_wsS RX12 365 yX12_lastAs wsX12_lastAs) := goodIn_app (goodIn_of _ (by decide +kernel)) ggX12_haver_X12_lastAs
set_option maxRecDepth 20000 in
theorem ggX12_haver_X12_can : GoodIn wsX12_haver wsX12_can := goodIn_r _ [9, 10, 11, 12, 4, 13, 14, 15, 16, 17, 18, 19, 20, 21, 22, 23, 24, 25, 26, 27, 28, 29, 30, 31, 32, 33, 34, 35, 36, 37, 38, 39, 40, 41, 42, 43, 44, 45, 46, 47, 48, 49, 50] (by decide +kernel) (by decide +kernel)
set_option maxRecDepth 20000 in
theorem gX12_haver_X12_can : GoodIn wsX12_haver (wsV RX12 353 RX12 yX12_can wsX12_can) := goodIn_app (goodIn_of _ (by decide +kernel)) ggX12_haver_X12_can
theorem dX12_haver_0 : decode cX12_haver 0 = .ok (.aload_n 0, 1) := by decide +kernel
theorem dX12_haver_1 : decode cX12_haver 1 = .ok (.getfield 45, 3) := by decide +kernel
theorem dX12_haver_4 : decode cX12_haver 4 = .ok (.bipush 6, 2) := by decide +kernel
theorem dX12_haver_6 : decode cX12_haver 6 = .ok (.iaload, 1) := by decide +kernel
theorem dX12_haver_7 : decode cX12_haver 7 = .ok (.istore 4, 2) := by decide +kernel
theorem dX12_haver_9 : decode cX12_haver 9 = .ok (.aload_n 0, 1) := by decide +kernel
theorem dX12_haver_10 : decode cX12_haver 10 = .ok (.iload_n 1, 1) := by decide +kernel
theorem dX12_haver_11 : decode cX12_haver 11 = .ok (.iload 4, 2) := by decide +kernel
theorem dX12_haver_13 : decode cX12_haver 13 = .ok (.ifCond .ne 7, 3) := by decide +kernel
theorem dX12_haver_16 : decode cX12_haver 16 = .ok (.iload_n 2, 1) := by decide +kernel
theorem dX12_haver_17 : decode cX12_haver 17 = .ok (.goto 4, 3) := by decide +kernel
theorem dX12_haver_20 : decode cX12_haver 20 = .ok (.iload_n 3, 1) := by decide +kernel
theorem dX12_haver_21 : decode cX12_haver 21 = .ok (.iload 4, 2) := by decide +kernel
theorem dX12_haver_23 : decode cX12_haver 23 = .ok (.ifCond .ne 7, 3) := by decide +kernel
theorem dX12_haver_26 : decode cX12_haver 26 = .ok (.iload_n 3, 1) := by decide +kernel
theorem dX12_haver_27 : decode cX12_haver 27 = .ok (.goto 4, 3) := by decide +kernel
theorem dX12_haver_30 : decode cX12_haver 30 = .ok (.iload_n 2, 1) := by decide +kernel
theorem dX12_haver_31 : decode cX12_haver 31 = .ok (.aload_n 0, 1) := by decide +kernel
theorem dX12_haver_32 : decode cX12_haver 32 = .ok (.getfield 45, 3) := by decide +kernel
theorem dX12_haver_35 : decode cX12_haver 35 = .ok (.bipush 14, 2) := by decide +kernel
theorem dX12_haver_37 : decode cX12_haver 37 = .ok (.iload 4, 2) := by decide +kernel
theorem dX12_haver_39 : decode cX12_haver 39 = .ok (.iadd, 1) := by decide +kernel
theorem dX12_haver_40 : decode cX12_haver 40 = .ok (.iaload, 1) := by decide +kernel
theorem dX12_haver_41 : decode cX12_haver 41 = .ok (.invokestatic 365, 3) := by decide +kernel
theorem dX12_haver_44 : decode cX12_haver 44 = .ok (.aload_n 0, 1) := by decide +kernel
theorem dX12_haver_45 : decode cX12_haver 45 = .ok (.getfield 45, 3) := by decide +kernel
theorem dX12_haver_48 : decode cX12_haver 48 = .ok (.bipush 15, 2) := by decide +kernel
theorem dX12_haver_50 : decode cX12_haver 50 = .ok (.iload 4, 2) := by decide +kernel
theorem dX12_haver_52 : decode cX12_haver 52 = .ok (.isub, 1) := by decide +kernel
theorem dX12_haver_53 : decode cX12_haver 53 = .ok (.iaload, 1) := by decide +kernel
theorem dX12_haver_54 : decode cX12_haver 54 = .ok (.invokestatic 365, 3) := by decide +kernel
theorem dX12_haver_57 : decode cX12_haver 57 = .ok (.invokevirtual 353, 3) := by decide +kernel
theorem dX12_haver_60 : decode cX12_haver 60 = .ok (.istore 5, 2) := by decide +kernel
theorem dX12_haver_62 : decode cX12_haver 62 = .ok (.iload 5, 2) := by decide +kernel
theorem dX12_haver_64 : decode cX12_haver 64 = .ok (.ifCond .eq 8, 3) := by decide +kernel
theorem dX12_haver_67 : decode cX12_haver 67 = .ok (.iload 4, 2) := by decide +kernel
theorem dX12_haver_69 : decode cX12_haver 69 = .ok (.goto 7, 3) := by decide +kernel
theorem dX12_haver_72 : decode cX12_haver 72 = .ok (.iconst 1, 1) := by decide +kernel
theorem dX12_haver_73 : decode cX12_haver 73 = .ok (.iload 4, 2) := by decide +kernel
theorem dX12_haver_75 : decode cX12_haver 75 = .ok (.isub, 1) := by decide +kernel
theorem dX12_haver_76 : decode cX12_haver 76 = .ok (.ireturn, 1) := by decide +kernel
set_option maxRecDepth 20000 in
theorem ggX12_have_X12_goesOn : GoodIn wsX12_have wsX12_goesOn := goodIn_r _ [6, 1, 38, 39, 40, 41, 42, 43, 44, 45, 46, 47, 48, 49, 50, 51, 52, 53, 54, 55, 56, 57, 58, 59, 60, 61, 62, 63, 64, 65, 66, 67, 68, 69, 70, 71, 72, 73, 74] (by decide +kernel) (by decide +kernel)
set_option maxRecDepth 20000 in
theorem gX12_have_X12_goesOn : GoodIn wsX12_have (wsV RX12 307 RX12 yX12_goesOn wsX12_goesOn) := goodIn_app (goodIn_of _ (by decide +kernel)) ggX12_have_X12_goesOn
set_option maxRecDepth 20000 in
theorem ggX12_have_X12_fillsTable : GoodIn wsX12_have wsX12_fillsTable := goodIn_r _ [10, 11, 12, 13, 5, 14, 15, 16, 17, 18, 19, 20, 21, 22, 23, 1, 24, 25, 26, 27, 28, 29, 30, 38, 39, 40, 41, 42, 43, 44, 45, 46, 47, 48, 49, 50, 51, 52, 53, 54, 55, 56, 57, 58, 59, 60, 61, 62, 63, 64, 65, 66, 67, 68, 69, 70, 71, 72, 73, 74] (by decide +kernel) (by decide +kernel)
set_option maxRecDepth 20000 in
theorem gX12_have_X12_fillsTable : GoodIn wsX12_have (wsV RX12 368 RX12 yX12_fillsTable wsX12_fillsTable) := goodIn_app (goodIn_of _ (by decide +kernel)) ggX12_have_X12_fillsTable
set_option maxRecDepth 20000 in
theorem ggX12_have_X12_haver : GoodIn wsX12_have wsX12_haver := goodIn_r _ [34, 1, 35, 36, 5, 37, 24, 25, 26, 27, 19, 28, 29, 30, 38, 39, 40, 41, 42, 43, 44, 45, 46, 47, 48, 49, 50, 51, 52, 53, 54, 55, 56, 57, 58, 59, 60, 61, 62, 63, 64, 65, 66, 67, 68, 69, 70, 71, 72, 73, 74] (by decide +kernel) (by decide +kernel)
set_option maxRecDepth 20000 in
theorem gX12_have_X12_haver : GoodIn wsX12_have (wsV RX12 371 RX12 yX12_haver wsX12_haver) := goodIn_app (goodIn_of _ (by decide +kernel)) ggX12_have_X12_haver
theorem dX12_have_0 : decode cX12_have 0 = .ok (.aload_n 0, 1) := by decide +kernel
theorem dX12_have_1 : decode cX12_have 1 = .ok (.invokevirtual 307, 3) := by decide +kernel
theorem dX12_have_4 : decode cX12_have 4 = .ok (.ifCond .ne 6, 3) := by decide +kernel
theorem dX12_have_7 : decode cX12_have 7 = .ok (.bipush (-2), 2) := by decide +kernel
theorem dX12_have_9 : decode cX12_have 9 = .ok (.ireturn, 1) := by decide +kernel
theorem dX12_have_10 : decode cX12_have 10 = .ok (.aload_n 0, 1) := by decide +kernel
theorem dX12_have_11 : decode cX12_have 11 = .ok (.aload_n 0, 1) := by decide +kernel
theorem dX12_have_12 : decode cX12_have 12 = .ok (.getfield 45, 3) := by decide +kernel
theorem dX12_have_15 : decode cX12_have 15 = .ok (.iconst 4, 1) := by decide +kernel
theorem dX12_have_16 : decode cX12_have 16 = .ok (.iaload, 1) := by decide +kernel
theorem dX12_have_17 : decode cX12_have 17 = .ok (.invokevirtual 368, 3) := by decide +kernel
theorem dX12_have_20 : decode cX12_have 20 = .ok (.aload_n 0, 1) := by decide +kernel
theorem dX12_have_21 : decode cX12_have 21 = .ok (.aload_n 0, 1) := by decide +kernel
theorem dX12_have_22 : decode cX12_have 22 = .ok (.getfield 45, 3) := by decide +kernel
theorem dX12_have_25 : decode cX12_have 25 = .ok (.iconst 5, 1) := by decide +kernel
theorem dX12_have_26 : decode cX12_have 26 = .ok (.iaload, 1) := by decide +kernel
theorem dX12_have_27 : decode cX12_have 27 = .ok (.aload_n 0, 1) := by decide +kernel
theorem dX12_have_28 : decode cX12_have 28 = .ok (.getfield 45, 3) := by decide +kernel
theorem dX12_have_31 : decode cX12_have 31 = .ok (.bipush 12, 2) := by decide +kernel
theorem dX12_have_33 : decode cX12_have 33 = .ok (.iaload, 1) := by decide +kernel
theorem dX12_have_34 : decode cX12_have 34 = .ok (.aload_n 0, 1) := by decide +kernel
theorem dX12_have_35 : decode cX12_have 35 = .ok (.getfield 45, 3) := by decide +kernel
theorem dX12_have_38 : decode cX12_have 38 = .ok (.bipush 13, 2) := by decide +kernel
theorem dX12_have_40 : decode cX12_have 40 = .ok (.iaload, 1) := by decide +kernel
theorem dX12_have_41 : decode cX12_have 41 = .ok (.invokevirtual 371, 3) := by decide +kernel
theorem dX12_have_44 : decode cX12_have 44 = .ok (.ireturn, 1) := by decide +kernel
set_option maxRecDepth 20000 in
theorem ggX12_move_X12_goesOn : GoodIn wsX12_move wsX12_goesOn := goodIn_r _ [6, 1, 38, 39, 40, 41, 42, 43, 44, 45, 46, 47, 48, 49, 50, 51, 52, 53, 54, 55, 56, 57, 58, 59, 60, 61, 62, 63, 64, 65, 66, 67, 68, 69, 70, 71, 72, 73, 74] (by decide +kernel) (by decide +kernel)
set_option maxRecDepth 20000 in
theorem gX12_move_X12_goesOn : GoodIn wsX12_move (wsV RX12 307 RX12 yX12_goesOn wsX12_goesOn) := goodIn_app (goodIn_of _ (by decide +kernel)) ggX12_move_X12_goesOn
set_option maxRecDepth 20000 in
theorem ggX12_move_X12_fillsTable : GoodIn wsX12_move wsX12_fillsTable := goodIn_r _ [10, 11, 12, 13, 5, 14, 15, 16, 17, 18, 19, 20, 21, 22, 23, 1, 24, 25, 26, 27, 28, 29, 30, 38, 39, 40, 41, 42, 43, 44, 45, 46, 47, 48, 49, 50, 51, 52, 53, 54, 55, 56, 57, 58, 59, 60, 61, 62, 63, 64, 65, 66, 67, 68, 69, 70, 71, 72, 73, 74] (by decide +kernel) (by decide +kernel)
set_option maxRecDepth 20000 in
theorem gX12_move_X12_fillsTable : GoodIn wsX12_move (wsV RX12 368 RX12 yX12_fillsTable wsX12_fillsTable) := goodIn_app (goodIn_of _ (by decide +kernel)) ggX12_move_X12_fillsTable
set_option maxRecDepth 20000 in
theorem ggX12_move_X12_lastAs : GoodIn wsX12_move wsX12_lastAs := goodIn_r _ [33] (by decide +kernel) (by decide +kernel)
set_option maxRecDepth 20000 in
theorem gX12_move_X12_lastAs : GoodIn wsX12_move (va_wsS RX12 365 yX12_lastAs wsX12_lastAs) := goodIn_app (goodIn_of _ (by decide +kernel)) ggX12_move_X12_lastAs
set_option maxRecDepth 20000 in
theorem ggX12_move_X12_can : GoodIn wsX12_move wsX12_can := goodIn_r _ [27, 19, 28, 29, 5, 30, 38, 39, 40, 41, 42, 43, 44, 45, 46, 47, 48, 49, 50, 51, 52, 53, 54, 55, 56, 57, 58, 59, 60, 61, 62, 63, 64, 65, 66, 67, 68, 69, 70, 71, 72, 73, 74] (by decide +kernel) (by decide +kernel)
set_option maxRecDepth 20000 in
theorem gX12_move_X12_can : GoodIn wsX12_move (wsV RX12 353 RX12 yX12_can wsX12_can) := goodIn_app (goodIn_of _ (by decide +kernel)) ggX12_move_X12_can
set_option maxRecDepth 20000 in
theorem ggX12_move_X12_canThrow : GoodIn wsX12_move wsX12_canThrow := goodIn_r _ [37, 1, 38, 39, 40, 41, 42, 43, 44, 45, 46, 47, 48, 49, 50, 51, 52, 53, 54, 55, 56, 57, 58, 59, 60, 61, 62, 63, 64, 65, 66, 67, 68, 69, 70, 71, 72, 73, 74] (by decide +kernel) (by decide +kernel)
set_option maxRecDepth 20000 in
theorem gX12_move_X12_canThrow : GoodIn wsX12_move (wsV RX12 280 RX12 yX12_canThrow wsX12_canThrow) := goodIn_app (goodIn_of _ (by decide +kernel)) ggX12_move_X12_canThrow
theorem dX12_move_0 : decode cX12_move 0 = .ok (.aload_n 0, 1) := by decide +kernel
theorem dX12_move_1 : decode cX12_move 1 = .ok (.invokevirtual 307, 3) := by decide +kernel
theorem dX12_move_4 : decode cX12_move 4 = .ok (.ifCond .ne 6, 3) := by decide +kernel
theorem dX12_move_7 : decode cX12_move 7 = .ok (.bipush (-2), 2) := by decide +kernel
theorem dX12_move_9 : decode cX12_move 9 = .ok (.ireturn, 1) := by decide +kernel
theorem dX12_move_10 : decode cX12_move 10 = .ok (.aload_n 0, 1) := by decide +kernel
theorem dX12_move_11 : decode cX12_move 11 = .ok (.aload_n 0, 1) := by decide +kernel
theorem dX12_move_12 : decode cX12_move 12 = .ok (.getfield 45, 3) := by decide +kernel
theorem dX12_move_15 : decode cX12_move 15 = .ok (.iconst 4, 1) := by decide +kernel
theorem dX12_move_16 : decode cX12_move 16 = .ok (.iaload, 1) := by decide +kernel
theorem dX12_move_17 : decode cX12_move 17 = .ok (.invokevirtual 368, 3) := by decide +kernel
theorem dX12_move_20 : decode cX12_move 20 = .ok (.aload_n 0, 1) := by decide +kernel
theorem dX12_move_21 : decode cX12_move 21 = .ok (.getfield 45, 3) := by decide +kernel
theorem dX12_move_24 : decode cX12_move 24 = .ok (.bipush 6, 2) := by decide +kernel
theorem dX12_move_26 : decode cX12_move 26 = .ok (.iaload, 1) := by decide +kernel
theorem dX12_move_27 : decode cX12_move 27 = .ok (.istore_n 1, 1) := by decide +kernel
theorem dX12_move_28 : decode cX12_move 28 = .ok (.aload_n 0, 1) := by decide +kernel
theorem dX12_move_29 : decode cX12_move 29 = .ok (.getfield 45, 3) := by decide +kernel
theorem dX12_move_32 : decode cX12_move 32 = .ok (.bipush 12, 2) := by decide +kernel
theorem dX12_move_34 : decode cX12_move 34 = .ok (.iload_n 1, 1) := by decide +kernel
theorem dX12_move_35 : decode cX12_move 35 = .ok (.iadd, 1) := by decide +kernel
theorem dX12_move_36 : decode cX12_move 36 = .ok (.iaload, 1) := by decide +kernel
theorem dX12_move_37 : decode cX12_move 37 = .ok (.istore_n 2, 1) := by decide +kernel
theorem dX12_move_38 : decode cX12_move 38 = .ok (.aload_n 0, 1) := by decide +kernel
theorem dX12_move_39 : decode cX12_move 39 = .ok (.getfield 45, 3) := by decide +kernel
theorem dX12_move_42 : decode cX12_move 42 = .ok (.bipush 13, 2) := by decide +kernel
theorem dX12_move_44 : decode cX12_move 44 = .ok (.iload_n 1, 1) := by decide +kernel
theorem dX12_move_45 : decode cX12_move 45 = .ok (.isub, 1) := by decide +kernel
theorem dX12_move_46 : decode cX12_move 46 = .ok (.iaload, 1) := by decide +kernel
theorem dX12_move_47 : decode cX12_move 47 = .ok (.istore_n 3, 1) := by decide +kernel
theorem dX12_move_48 : decode cX12_move 48 = .ok (.aload_n 0, 1) := by decide +kernel
theorem dX12_move_49 : decode cX12_move 49 = .ok (.getfield 45, 3) := by decide +kernel
theorem dX12_move_52 : decode cX12_move 52 = .ok (.bipush 14, 2) := by decide +kernel
theorem dX12_move_54 : decode cX12_move 54 = .ok (.iload_n 1, 1) := by decide +kernel
theorem dX12_move_55 : decode cX12_move 55 = .ok (.iadd, 1) := by decide +kernel
theorem dX12_move_56 : decode cX12_move 56 = .ok (.iaload, 1) := by decide +kernel
theorem dX12_move_57 : decode cX12_move 57 = .ok (.invokestatic 365, 3) := by decide +kernel
theorem dX12_move_60 : decode cX12_move 60 = .ok (.istore 4, 2) := by decide +kernel
theorem dX12_move_62 : decode cX12_move 62 = .ok (.aload_n 0, 1) := by decide +kernel
theorem dX12_move_63 : decode cX12_move 63 = .ok (.getfield 45, 3) := by decide +kernel
theorem dX12_move_66 : decode cX12_move 66 = .ok (.bipush 15, 2) := by decide +kernel
theorem dX12_move_68 : decode cX12_move 68 = .ok (.iload_n 1, 1) := by decide +kernel
theorem dX12_move_69 : decode cX12_move 69 = .ok (.isub, 1) := by decide +kernel
theorem dX12_move_70 : decode cX12_move 70 = .ok (.iaload, 1) := by decide +kernel
theorem dX12_move_71 : decode cX12_move 71 = .ok (.invokestatic 365, 3) := by decide +kernel
theorem dX12_move_74 : decode cX12_move 74 = .ok (.istore 5, 2) := by decide +kernel
theorem dX12_move_76 : decode cX12_move 76 = .ok (.iconst 0, 1) := by decide +kernel
theorem dX12_move_77 : decode cX12_move 77 = .ok (.istore 6, 2) := by decide +kernel
theorem dX12_move_79 : decode cX12_move 79 = .ok (.iload 6, 2) := by decide +kernel
theorem dX12_move_81 : decode cX12_move 81 = .ok (.aload_n 0, 1) := by decide +kernel
theorem dX12_move_82 : decode cX12_move 82 = .ok (.getfield 45, 3) := by decide +kernel
theorem dX12_move_85 : decode cX12_move 85 = .ok (.iconst 1, 1) := by decide +kernel
theorem dX12_move_86 : decode cX12_move 86 = .ok (.iaload, 1) := by decide +kernel
theorem dX12_move_87 : decode cX12_move 87 = .ok (.if_icmp .ge 69, 3) := by decide +kernel
theorem dX12_move_90 : decode cX12_move 90 = .ok (.aload_n 0, 1) := by decide +kernel
theorem dX12_move_91 : decode cX12_move 91 = .ok (.getfield 45, 3) := by decide +kernel
theorem dX12_move_94 : decode cX12_move 94 = .ok (.iconst 5, 1) := by decide +kernel
theorem dX12_move_95 : decode cX12_move 95 = .ok (.iaload, 1) := by decide +kernel
theorem dX12_move_96 : decode cX12_move 96 = .ok (.aload_n 0, 1) := by decide +kernel
theorem dX12_move_97 : decode cX12_move 97 = .ok (.getfield 45, 3) := by decide +kernel
theorem dX12_move_100 : decode cX12_move 100 = .ok (.bipush 28, 2) := by decide +kernel
theorem dX12_move_102 : decode cX12_move 102 = .ok (.iload 6, 2) := by decide +kernel
theorem dX12_move_104 : decode cX12_move 104 = .ok (.iadd, 1) := by decide +kernel
theorem dX12_move_105 : decode cX12_move 105 = .ok (.iaload, 1) := by decide +kernel
theorem dX12_move_106 : decode cX12_move 106 = .ok (.isub, 1) := by decide +kernel
theorem dX12_move_107 : decode cX12_move 107 = .ok (.iload 6, 2) := by decide +kernel
theorem dX12_move_109 : decode cX12_move 109 = .ok (.iload 4, 2) := by decide +kernel
theorem dX12_move_111 : decode cX12_move 111 = .ok (.if_icmp .ne 12, 3) := by decide +kernel
theorem dX12_move_114 : decode cX12_move 114 = .ok (.aload_n 0, 1) := by decide +kernel
theorem dX12_move_115 : decode cX12_move 115 = .ok (.getfield 45, 3) := by decide +kernel
theorem dX12_move_118 : decode cX12_move 118 = .ok (.iconst 2, 1) := by decide +kernel
theorem dX12_move_119 : decode cX12_move 119 = .ok (.iaload, 1) := by decide +kernel
theorem dX12_move_120 : decode cX12_move 120 = .ok (.goto 4, 3) := by decide +kernel
theorem dX12_move_123 : decode cX12_move 123 = .ok (.iconst 0, 1) := by decide +kernel
theorem dX12_move_124 : decode cX12_move 124 = .ok (.isub, 1) := by decide +kernel
theorem dX12_move_125 : decode cX12_move 125 = .ok (.istore 7, 2) := by decide +kernel
theorem dX12_move_127 : decode cX12_move 127 = .ok (.iload 7, 2) := by decide +kernel
theorem dX12_move_129 : decode cX12_move 129 = .ok (.ifCond .lt 21, 3) := by decide +kernel
theorem dX12_move_132 : decode cX12_move 132 = .ok (.aload_n 0, 1) := by decide +kernel
theorem dX12_move_133 : decode cX12_move 133 = .ok (.iload 7, 2) := by decide +kernel
theorem dX12_move_135 : decode cX12_move 135 = .ok (.iload_n 3, 1) := by decide +kernel
theorem dX12_move_136 : decode cX12_move 136 = .ok (.iload_n 2, 1) := by decide +kernel
theorem dX12_move_137 : decode cX12_move 137 = .ok (.iload 5, 2) := by decide +kernel
theorem dX12_move_139 : decode cX12_move 139 = .ok (.iload 6, 2) := by decide +kernel
theorem dX12_move_141 : decode cX12_move 141 = .ok (.invokevirtual 353, 3) := by decide +kernel
theorem dX12_move_144 : decode cX12_move 144 = .ok (.ifCond .ne 6, 3) := by decide +kernel
theorem dX12_move_147 : decode cX12_move 147 = .ok (.iload 6, 2) := by decide +kernel
theorem dX12_move_149 : decode cX12_move 149 = .ok (.ireturn, 1) := by decide +kernel
theorem dX12_move_150 : decode cX12_move 150 = .ok (.iinc 6 1, 3) := by decide +kernel
theorem dX12_move_153 : decode cX12_move 153 = .ok (.goto (-74), 3) := by decide +kernel
theorem dX12_move_156 : decode cX12_move 156 = .ok (.aload_n 0, 1) := by decide +kernel
theorem dX12_move_157 : decode cX12_move 157 = .ok (.invokevirtual 280, 3) := by decide +kernel
theorem dX12_move_160 : decode cX12_move 160 = .ok (.ifCond .eq 35, 3) := by decide +kernel
theorem dX12_move_163 : decode cX12_move 163 = .ok (.aload_n 0, 1) := by decide +kernel
theorem dX12_move_164 : decode cX12_move 164 = .ok (.aload_n 0, 1) := by decide +kernel
theorem dX12_move_165 : decode cX12_move 165 = .ok (.getfield 45, 3) := by decide +kernel
theorem dX12_move_168 : decode cX12_move 168 = .ok (.iconst 5, 1) := by decide +kernel
theorem dX12_move_169 : decode cX12_move 169 = .ok (.iaload, 1) := by decide +kernel
theorem dX12_move_170 : decode cX12_move 170 = .ok (.aload_n 0, 1) := by decide +kernel
theorem dX12_move_171 : decode cX12_move 171 = .ok (.getfield 45, 3) := by decide +kernel
theorem dX12_move_174 : decode cX12_move 174 = .ok (.iconst 4, 1) := by decide +kernel
theorem dX12_move_175 : decode cX12_move 175 = .ok (.iaload, 1) := by decide +kernel
theorem dX12_move_176 : decode cX12_move 176 = .ok (.iadd, 1) := by decide +kernel
theorem dX12_move_177 : decode cX12_move 177 = .ok (.iload_n 2, 1) := by decide +kernel
theorem dX12_move_178 : decode cX12_move 178 = .ok (.iconst 1, 1) := by decide +kernel
theorem dX12_move_179 : decode cX12_move 179 = .ok (.isub, 1) := by decide +kernel
theorem dX12_move_180 : decode cX12_move 180 = .ok (.iload_n 3, 1) := by decide +kernel
theorem dX12_move_181 : decode cX12_move 181 = .ok (.iload 4, 2) := by decide +kernel
theorem dX12_move_183 : decode cX12_move 183 = .ok (.iload 5, 2) := by decide +kernel
theorem dX12_move_185 : decode cX12_move 185 = .ok (.invokevirtual 353, 3) := by decide +kernel
theorem dX12_move_188 : decode cX12_move 188 = .ok (.ifCond .eq 7, 3) := by decide +kernel
theorem dX12_move_191 : decode cX12_move 191 = .ok (.iconst 4, 1) := by decide +kernel
theorem dX12_move_192 : decode cX12_move 192 = .ok (.goto 4, 3) := by decide +kernel
theorem dX12_move_195 : decode cX12_move 195 = .ok (.iconst (-1), 1) := by decide +kernel
theorem dX12_move_196 : decode cX12_move 196 = .ok (.ireturn, 1) := by decide +kernel
set_option maxRecDepth 20000 in
theorem ggX12_haverIf_X12_haver : GoodIn wsX12_haverIf wsX12_haver := goodIn_r _ [6, 1, 7, 8, 5, 9, 10, 11, 12, 13, 14, 15, 16, 17, 18, 19, 20, 21, 22, 23, 24, 25, 26, 27, 28, 29, 30, 31, 32, 33, 34, 35, 36, 37, 38, 39, 40, 41, 42, 43, 44, 45, 46, 47, 48, 49, 50, 51, 52, 53, 54] (by decide +kernel) (by decide +kernel)
set_option maxRecDepth 20000 in
theorem gX12_haverIf_X12_haver : GoodIn wsX12_haverIf (wsV RX12 371 RX12 yX12_haver wsX12_haver) := goodIn_app (goodIn_of _ (by decide +kernel)) ggX12_haverIf_X12_haver
theorem dX12_haverIf_0 : decode cX12_haverIf 0 = .ok (.aload_n 0, 1) := by decide +kernel
theorem dX12_haverIf_1 : decode cX12_haverIf 1 = .ok (.aload_n 0, 1) := by decide +kernel
theorem dX12_haverIf_2 : decode cX12_haverIf 2 = .ok (.getfield 45, 3) := by decide +kernel
theorem dX12_haverIf_5 : decode cX12_haverIf 5 = .ok (.iconst 5, 1) := by decide +kernel
theorem dX12_haverIf_6 : decode cX12_haverIf 6 = .ok (.iaload, 1) := by decide +kernel
theorem dX12_haverIf_7 : decode cX12_haverIf 7 = .ok (.iload_n 1, 1) := by decide +kernel
theorem dX12_haverIf_8 : decode cX12_haverIf 8 = .ok (.ifCond .ne 7, 3) := by decide +kernel
theorem dX12_haverIf_11 : decode cX12_haverIf 11 = .ok (.iload_n 2, 1) := by decide +kernel
theorem dX12_haverIf_12 : decode cX12_haverIf 12 = .ok (.goto 10, 3) := by decide +kernel
theorem dX12_haverIf_15 : decode cX12_haverIf 15 = .ok (.aload_n 0, 1) := by decide +kernel
theorem dX12_haverIf_16 : decode cX12_haverIf 16 = .ok (.getfield 45, 3) := by decide +kernel
theorem dX12_haverIf_19 : decode cX12_haverIf 19 = .ok (.bipush 12, 2) := by decide +kernel
theorem dX12_haverIf_21 : decode cX12_haverIf 21 = .ok (.iaload, 1) := by decide +kernel
theorem dX12_haverIf_22 : decode cX12_haverIf 22 = .ok (.iload_n 1, 1) := by decide +kernel
theorem dX12_haverIf_23 : decode cX12_haverIf 23 = .ok (.iconst 1, 1) := by decide +kernel
theorem dX12_haverIf_24 : decode cX12_haverIf 24 = .ok (.if_icmp .ne 7, 3) := by decide +kernel
theorem dX12_haverIf_27 : decode cX12_haverIf 27 = .ok (.iload_n 2, 1) := by decide +kernel
theorem dX12_haverIf_28 : decode cX12_haverIf 28 = .ok (.goto 10, 3) := by decide +kernel
theorem dX12_haverIf_31 : decode cX12_haverIf 31 = .ok (.aload_n 0, 1) := by decide +kernel
theorem dX12_haverIf_32 : decode cX12_haverIf 32 = .ok (.getfield 45, 3) := by decide +kernel
theorem dX12_haverIf_35 : decode cX12_haverIf 35 = .ok (.bipush 13, 2) := by decide +kernel
theorem dX12_haverIf_37 : decode cX12_haverIf 37 = .ok (.iaload, 1) := by decide +kernel
theorem dX12_haverIf_38 : decode cX12_haverIf 38 = .ok (.invokevirtual 371, 3) := by decide +kernel
theorem dX12_haverIf_41 : decode cX12_haverIf 41 = .ok (.ireturn, 1) := by decide +kernel
set_option maxRecDepth 20000 in
theorem ggX12_enough_X12_goesOn : GoodIn wsX12_enough wsX12_goesOn := goodIn_r _ [6, 1, 45, 46, 47, 48, 49, 50, 51, 52, 53, 54, 55, 56, 57, 58, 59, 60, 61, 62, 63, 64, 65, 66, 67, 68, 69, 70, 71, 72, 73, 74, 75, 76, 77, 78, 79, 80, 81] (by decide +kernel) (by decide +kernel)
set_option maxRecDepth 20000 in
theorem gX12_enough_X12_goesOn : GoodIn wsX12_enough (wsV RX12 307 RX12 yX12_goesOn wsX12_goesOn) := goodIn_app (goodIn_of _ (by decide +kernel)) ggX12_enough_X12_goesOn
set_option maxRecDepth 20000 in
theorem ggX12_enough_X12_isSide : GoodIn wsX12_enough wsX12_isSide := goodIn_r _ [9] (by decide +kernel) (by decide +kernel)
set_option maxRecDepth 20000 in
theorem gX12_enough_X12_isSide : GoodIn wsX12_enough (va_wsS RX12 298 yX12_isSide wsX12_isSide) := goodIn_app (goodIn_of _ (by decide +kernel)) ggX12_enough_X12_isSide
set_option maxRecDepth 20000 in
theorem ggX12_enough_X12_fillsTable : GoodIn wsX12_enough wsX12_fillsTable := goodIn_r _ [13, 14, 15, 16, 5, 17, 18, 19, 20, 21, 22, 23, 24, 25, 26, 1, 27, 28, 29, 30, 31, 32, 33, 45, 46, 47, 48, 49, 50, 51, 52, 53, 54, 55, 56, 57, 58, 59, 60, 61, 62, 63, 64, 65, 66, 67, 68, 69, 70, 71, 72, 73, 74, 75, 76, 77, 78, 79, 80, 81] (by decide +kernel) (by decide +kernel)
set_option maxRecDepth 20000 in
theorem gX12_enough_X12_fillsTable : GoodIn wsX12_enough (wsV RX12 368 RX12 yX12_fillsTable wsX12_fillsTable) := goodIn_app (goodIn_of _ (by decide +kernel)) ggX12_enough_X12_fillsTable
set_option maxRecDepth 20000 in
theorem ggX12_enough_X12_haverIf : GoodIn wsX12_enough wsX12_haverIf := goodIn_r _ [37, 1, 38, 39, 40, 5, 41, 42, 43, 44, 27, 28, 29, 30, 22, 31, 32, 33, 45, 46, 47, 48, 49, 50, 51, 52, 53, 54, 55, 56, 57, 58, 59, 60, 61, 62, 63, 64, 65, 66, 67, 68, 69, 70, 71, 72, 73, 74, 75, 76, 77, 78, 79, 80, 81] (by decide +kernel) (by decide +kernel)
set_option maxRecDepth 20000 in
theorem gX12_enough_X12_haverIf : GoodIn wsX12_enough (wsV RX12 374 RX12 yX12_haverIf wsX12_haverIf) := goodIn_app (goodIn_of _ (by decide +kernel)) ggX12_enough_X12_haverIf
theorem dX12_enough_0 : decode cX12_enough 0 = .ok (.aload_n 0, 1) := by decide +kernel
theorem dX12_enough_1 : decode cX12_enough 1 = .ok (.invokevirtual 307, 3) := by decide +kernel
theorem dX12_enough_4 : decode cX12_enough 4 = .ok (.ifCond .eq 10, 3) := by decide +kernel
theorem dX12_enough_7 : decode cX12_enough 7 = .ok (.iload_n 1, 1) := by decide +kernel
theorem dX12_enough_8 : decode cX12_enough 8 = .ok (.invokestatic 298, 3) := by decide +kernel
theorem dX12_enough_11 : decode cX12_enough 11 = .ok (.ifCond .ne 6, 3) := by decide +kernel
theorem dX12_enough_14 : decode cX12_enough 14 = .ok (.bipush (-2), 2) := by decide +kernel
theorem dX12_enough_16 : decode cX12_enough 16 = .ok (.ireturn, 1) := by decide +kernel
theorem dX12_enough_17 : decode cX12_enough 17 = .ok (.aload_n 0, 1) := by decide +kernel
theorem dX12_enough_18 : decode cX12_enough 18 = .ok (.aload_n 0, 1) := by decide +kernel
theorem dX12_enough_19 : decode cX12_enough 19 = .ok (.getfield 45, 3) := by decide +kernel
theorem dX12_enough_22 : decode cX12_enough 22 = .ok (.iconst 4, 1) := by decide +kernel
theorem dX12_enough_23 : decode cX12_enough 23 = .ok (.iaload, 1) := by decide +kernel
theorem dX12_enough_24 : decode cX12_enough 24 = .ok (.invokevirtual 368, 3) := by decide +kernel
theorem dX12_enough_27 : decode cX12_enough 27 = .ok (.iconst 0, 1) := by decide +kernel
theorem dX12_enough_28 : decode cX12_enough 28 = .ok (.istore_n 2, 1) := by decide +kernel
theorem dX12_enough_29 : decode cX12_enough 29 = .ok (.iload_n 2, 1) := by decide +kernel
theorem dX12_enough_30 : decode cX12_enough 30 = .ok (.bipush 7, 2) := by decide +kernel
theorem dX12_enough_32 : decode cX12_enough 32 = .ok (.if_icmp .gt 21, 3) := by decide +kernel
theorem dX12_enough_35 : decode cX12_enough 35 = .ok (.aload_n 0, 1) := by decide +kernel
theorem dX12_enough_36 : decode cX12_enough 36 = .ok (.iload_n 1, 1) := by decide +kernel
theorem dX12_enough_37 : decode cX12_enough 37 = .ok (.iload_n 2, 1) := by decide +kernel
theorem dX12_enough_38 : decode cX12_enough 38 = .ok (.invokevirtual 374, 3) := by decide +kernel
theorem dX12_enough_41 : decode cX12_enough 41 = .ok (.iload_n 1, 1) := by decide +kernel
theorem dX12_enough_42 : decode cX12_enough 42 = .ok (.if_icmp .ne 5, 3) := by decide +kernel
theorem dX12_enough_45 : decode cX12_enough 45 = .ok (.iload_n 2, 1) := by decide +kernel
theorem dX12_enough_46 : decode cX12_enough 46 = .ok (.ireturn, 1) := by decide +kernel
theorem dX12_enough_47 : decode cX12_enough 47 = .ok (.iinc 2 1, 3) := by decide +kernel
theorem dX12_enough_50 : decode cX12_enough 50 = .ok (.goto (-21), 3) := by decide +kernel
theorem dX12_enough_53 : decode cX12_enough 53 = .ok (.iconst (-1), 1) := by decide +kernel
theorem dX12_enough_54 : decode cX12_enough 54 = .ok (.ireturn, 1) := by decide +kernel
theorem dX12_divisor_0 : decode cX12_divisor 0 = .ok (.iload_n 0, 1) := by decide +kernel
theorem dX12_divisor_1 : decode cX12_divisor 1 = .ok (.istore_n 2, 1) := by decide +kernel
theorem dX12_divisor_2 : decode cX12_divisor 2 = .ok (.iload_n 1, 1) := by decide +kernel
theorem dX12_divisor_3 : decode cX12_divisor 3 = .ok (.istore_n 3, 1) := by decide +kernel
theorem dX12_divisor_4 : decode cX12_divisor 4 = .ok (.iload_n 3, 1) := by decide +kernel
theorem dX12_divisor_5 : decode cX12_divisor 5 = .ok (.ifCond .eq 16, 3) := by decide +kernel
theorem dX12_divisor_8 : decode cX12_divisor 8 = .ok (.iload_n 2, 1) := by decide +kernel
theorem dX12_divisor_9 : decode cX12_divisor 9 = .ok (.iload_n 3, 1) := by decide +kernel
theorem dX12_divisor_10 : decode cX12_divisor 10 = .ok (.irem, 1) := by decide +kernel
theorem dX12_divisor_11 : decode cX12_divisor 11 = .ok (.istore 4, 2) := by decide +kernel
theorem dX12_divisor_13 : decode cX12_divisor 13 = .ok (.iload_n 3, 1) := by decide +kernel
theorem dX12_divisor_14 : decode cX12_divisor 14 = .ok (.istore_n 2, 1) := by decide +kernel
theorem dX12_divisor_15 : decode cX12_divisor 15 = .ok (.iload 4, 2) := by decide +kernel
theorem dX12_divisor_17 : decode cX12_divisor 17 = .ok (.istore_n 3, 1) := by decide +kernel
theorem dX12_divisor_18 : decode cX12_divisor 18 = .ok (.goto (-14), 3) := by decide +kernel
theorem dX12_divisor_21 : decode cX12_divisor 21 = .ok (.iload_n 2, 1) := by decide +kernel
theorem dX12_divisor_22 : decode cX12_divisor 22 = .ok (.ireturn, 1) := by decide +kernel
set_option maxRecDepth 20000 in
theorem ggX12_hidden_X12_goesOn : GoodIn wsX12_hidden wsX12_goesOn := goodIn_r _ [7, 2, 48, 49, 50, 51, 52, 53, 54, 55, 56, 57, 58, 59, 60, 61, 62, 63, 64, 65, 66, 67, 68, 69, 70, 71, 72, 73, 74, 75, 76, 77, 78, 79, 80, 81, 82, 83, 84] (by decide +kernel) (by decide +kernel)
set_option maxRecDepth 20000 in
theorem gX12_hidden_X12_goesOn : GoodIn wsX12_hidden (wsV RX12 307 RX12 yX12_goesOn wsX12_goesOn) := goodIn_app (goodIn_of _ (by decide +kernel)) ggX12_hidden_X12_goesOn
set_option maxRecDepth 20000 in
theorem ggX12_hidden_X12_isSide : GoodIn wsX12_hidden wsX12_isSide := goodIn_r _ [10] (by decide +kernel) (by decide +kernel)
set_option maxRecDepth 20000 in
theorem gX12_hidden_X12_isSide : GoodIn wsX12_hidden (va_wsS RX12 298 yX12_isSide wsX12_isSide) := goodIn_app (goodIn_of _ (by decide +kernel)) ggX12_hidden_X12_isSide
set_option maxRecDepth 20000 in
theorem ggX12_hidden_X12_in : GoodIn wsX12_hidden wsX12_in := goodIn_r _ [13] (by decide +kernel) (by decide +kernel)
set_option maxRecDepth 20000 in
theorem gX12_hidden_X12_in : GoodIn wsX12_hidden (va_wsS RX12 115 yX12_in wsX12_in) := goodIn_app (goodIn_of _ (by decide +kernel)) ggX12_hidden_X12_in
set_option maxRecDepth 20000 in
theorem ggX12_hidden_X12_fillsTable : GoodIn wsX12_hidden wsX12_fillsTable := goodIn_r _ [17, 1, 11, 12, 6, 13, 18, 19, 20, 21, 22, 23, 24, 25, 26, 2, 27, 28, 29, 30, 31, 32, 33, 48, 49, 50, 51, 52, 53, 54, 55, 56, 57, 58, 59, 60, 61, 62, 63, 64, 65, 66, 67, 68, 69, 70, 71, 72, 73, 74, 75, 76, 77, 78, 79, 80, 81, 82, 83, 84] (by decide +kernel) (by decide +kernel)
set_option maxRecDepth 20000 in
theorem gX12_hidden_X12_fillsTable : GoodIn wsX12_hidden (wsV RX12 368 RX12 yX12_fillsTable wsX12_fillsTable) := goodIn_app (goodIn_of _ (by decide +kernel)) ggX12_hidden_X12_fillsTable
set_option maxRecDepth 20000 in
theorem ggX12_hidden_X12_haverIf : GoodIn wsX12_hidden wsX12_haverIf := goodIn_r _ [37, 2, 38, 39, 40, 6, 41, 42, 43, 44, 27, 28, 29, 30, 22, 31, 32, 33, 48, 49, 50, 51, 52, 53, 54, 55, 56, 57, 58, 59, 60, 61, 62, 63, 64, 65, 66, 67, 68, 69, 70, 71, 72, 73, 74, 75, 76, 77, 78, 79, 80, 81, 82, 83, 84] (by decide +kernel) (by decide +kernel)
set_option maxRecDepth 20000 in
theorem gX12_hidden_X12_haverIf : GoodIn wsX12_hidden (wsV RX12 374 RX12 yX12_haverIf wsX12_haverIf) := goodIn_app (goodIn_of _ (by decide +kernel)) ggX12_hidden_X12_haverIf
set_option maxRecDepth 20000 in
theorem ggX12_hidden_X12_divisor : GoodIn wsX12_hidden wsX12_divisor := goodIn_r _ [47] (by decide +kernel) (by decide +kernel)
set_option maxRecDepth 20000 in
theorem gX12_hidden_X12_divisor : GoodIn wsX12_hidden (va_wsS RX12 377 yX12_divisor wsX12_divisor) := goodIn_app (goodIn_of _ (by decide +kernel)) ggX12_hidden_X12_divisor
theorem dX12_hidden_0 : decode cX12_hidden 0 = .ok (.aload_n 0, 1) := by decide +kernel
theorem dX12_hidden_1 : decode cX12_hidden 1 = .ok (.invokevirtual 307, 3) := by decide +kernel
theorem dX12_hidden_4 : decode cX12_hidden 4 = .ok (.ifCond .eq 32, 3) := by decide +kernel
theorem dX12_hidden_7 : decode cX12_hidden 7 = .ok (.iload_n 1, 1) := by decide +kernel
theorem dX12_hidden_8 : decode cX12_hidden 8 = .ok (.invokestatic 298, 3) := by decide +kernel
theorem dX12_hidden_11 : decode cX12_hidden 11 = .ok (.ifCond .eq 25, 3) := by decide +kernel
theorem dX12_hidden_14 : decode cX12_hidden 14 = .ok (.iload_n 2, 1) := by decide +kernel
theorem dX12_hidden_15 : decode cX12_hidden 15 = .ok (.i2l, 1) := by decide +kernel
theorem dX12_hidden_16 : decode cX12_hidden 16 = .ok (.lconst 0, 1) := by decide +kernel
theorem dX12_hidden_17 : decode cX12_hidden 17 = .ok (.ldc2_w 321, 3) := by decide +kernel
theorem dX12_hidden_20 : decode cX12_hidden 20 = .ok (.invokestatic 115, 3) := by decide +kernel
theorem dX12_hidden_23 : decode cX12_hidden 23 = .ok (.ifCond .eq 13, 3) := by decide +kernel
theorem dX12_hidden_26 : decode cX12_hidden 26 = .ok (.iload_n 3, 1) := by decide +kernel
theorem dX12_hidden_27 : decode cX12_hidden 27 = .ok (.i2l, 1) := by decide +kernel
theorem dX12_hidden_28 : decode cX12_hidden 28 = .ok (.lconst 0, 1) := by decide +kernel
theorem dX12_hidden_29 : decode cX12_hidden 29 = .ok (.lconst 1, 1) := by decide +kernel
theorem dX12_hidden_30 : decode cX12_hidden 30 = .ok (.invokestatic 115, 3) := by decide +kernel
theorem dX12_hidden_33 : decode cX12_hidden 33 = .ok (.ifCond .ne 6, 3) := by decide +kernel
theorem dX12_hidden_36 : decode cX12_hidden 36 = .ok (.bipush (-2), 2) := by decide +kernel
theorem dX12_hidden_38 : decode cX12_hidden 38 = .ok (.ireturn, 1) := by decide +kernel
theorem dX12_hidden_39 : decode cX12_hidden 39 = .ok (.aload_n 0, 1) := by decide +kernel
theorem dX12_hidden_40 : decode cX12_hidden 40 = .ok (.aload_n 0, 1) := by decide +kernel
theorem dX12_hidden_41 : decode cX12_hidden 41 = .ok (.getfield 45, 3) := by decide +kernel
theorem dX12_hidden_44 : decode cX12_hidden 44 = .ok (.iconst 4, 1) := by decide +kernel
theorem dX12_hidden_45 : decode cX12_hidden 45 = .ok (.iaload, 1) := by decide +kernel
theorem dX12_hidden_46 : decode cX12_hidden 46 = .ok (.invokevirtual 368, 3) := by decide +kernel
theorem dX12_hidden_49 : decode cX12_hidden 49 = .ok (.iconst 0, 1) := by decide +kernel
theorem dX12_hidden_50 : decode cX12_hidden 50 = .ok (.istore 4, 2) := by decide +kernel
theorem dX12_hidden_52 : decode cX12_hidden 52 = .ok (.iconst 0, 1) := by decide +kernel
theorem dX12_hidden_53 : decode cX12_hidden 53 = .ok (.istore 5, 2) := by decide +kernel
theorem dX12_hidden_55 : decode cX12_hidden 55 = .ok (.iload 5, 2) := by decide +kernel
theorem dX12_hidden_57 : decode cX12_hidden 57 = .ok (.iload_n 2, 1) := by decide +kernel
theorem dX12_hidden_58 : decode cX12_hidden 58 = .ok (.if_icmp .gt 32, 3) := by decide +kernel
theorem dX12_hidden_61 : decode cX12_hidden 61 = .ok (.iload 4, 2) := by decide +kernel
theorem dX12_hidden_63 : decode cX12_hidden 63 = .ok (.aload_n 0, 1) := by decide +kernel
theorem dX12_hidden_64 : decode cX12_hidden 64 = .ok (.iconst 1, 1) := by decide +kernel
theorem dX12_hidden_65 : decode cX12_hidden 65 = .ok (.iload_n 1, 1) := by decide +kernel
theorem dX12_hidden_66 : decode cX12_hidden 66 = .ok (.isub, 1) := by decide +kernel
theorem dX12_hidden_67 : decode cX12_hidden 67 = .ok (.iload 5, 2) := by decide +kernel
theorem dX12_hidden_69 : decode cX12_hidden 69 = .ok (.invokevirtual 374, 3) := by decide +kernel
theorem dX12_hidden_72 : decode cX12_hidden 72 = .ok (.iload_n 1, 1) := by decide +kernel
theorem dX12_hidden_73 : decode cX12_hidden 73 = .ok (.if_icmp .ne 7, 3) := by decide +kernel
theorem dX12_hidden_76 : decode cX12_hidden 76 = .ok (.iconst 1, 1) := by decide +kernel
theorem dX12_hidden_77 : decode cX12_hidden 77 = .ok (.goto 4, 3) := by decide +kernel
theorem dX12_hidden_80 : decode cX12_hidden 80 = .ok (.iconst 0, 1) := by decide +kernel
theorem dX12_hidden_81 : decode cX12_hidden 81 = .ok (.iadd, 1) := by decide +kernel
theorem dX12_hidden_82 : decode cX12_hidden 82 = .ok (.istore 4, 2) := by decide +kernel
theorem dX12_hidden_84 : decode cX12_hidden 84 = .ok (.iinc 5 1, 3) := by decide +kernel
theorem dX12_hidden_87 : decode cX12_hidden 87 = .ok (.goto (-32), 3) := by decide +kernel
theorem dX12_hidden_90 : decode cX12_hidden 90 = .ok (.iload_n 3, 1) := by decide +kernel
theorem dX12_hidden_91 : decode cX12_hidden 91 = .ok (.ifCond .ne 8, 3) := by decide +kernel
theorem dX12_hidden_94 : decode cX12_hidden 94 = .ok (.iload 4, 2) := by decide +kernel
theorem dX12_hidden_96 : decode cX12_hidden 96 = .ok (.goto 6, 3) := by decide +kernel
theorem dX12_hidden_99 : decode cX12_hidden 99 = .ok (.iload_n 2, 1) := by decide +kernel
theorem dX12_hidden_100 : decode cX12_hidden 100 = .ok (.iconst 1, 1) := by decide +kernel
theorem dX12_hidden_101 : decode cX12_hidden 101 = .ok (.iadd, 1) := by decide +kernel
theorem dX12_hidden_102 : decode cX12_hidden 102 = .ok (.iload 4, 2) := by decide +kernel
theorem dX12_hidden_104 : decode cX12_hidden 104 = .ok (.iload_n 2, 1) := by decide +kernel
theorem dX12_hidden_105 : decode cX12_hidden 105 = .ok (.iconst 1, 1) := by decide +kernel
theorem dX12_hidden_106 : decode cX12_hidden 106 = .ok (.iadd, 1) := by decide +kernel
theorem dX12_hidden_107 : decode cX12_hidden 107 = .ok (.invokestatic 377, 3) := by decide +kernel
theorem dX12_hidden_110 : decode cX12_hidden 110 = .ok (.idiv, 1) := by decide +kernel
theorem dX12_hidden_111 : decode cX12_hidden 111 = .ok (.ireturn, 1) := by decide +kernel
set_option maxRecDepth 20000 in
theorem ggX12_isFirsts_X12_can : GoodIn wsX12_isFirsts wsX12_can := goodIn_r _ [5, 6, 7, 8, 4, 9, 10, 11, 12, 13, 14, 15, 16, 17, 18, 19, 20, 21, 22, 23, 24, 25, 26, 27, 28, 29, 30, 31, 32, 33, 34, 35, 36, 37, 38, 39, 40, 41, 42, 43, 44, 45, 46] (by decide +kernel) (by decide +kernel)
set_option maxRecDepth 20000 in
theorem gX12_isFirsts_X12_can : GoodIn wsX12_isFirsts (wsV RX12 353 RX12 yX12_can wsX12_can) := goodIn_app (goodIn_of _ (by decide +kernel)) ggX12_isFirsts_X12_can
