theorem dX12_isFirsts_0 : decode cX12_isFirsts 0 = .ok (.aload_n 0, 1) := by decide +kernel
theorem dX12_isFirsts_1 : decode cX12_isFirsts 1 = .ok (.iload_n 1, 1) := by decide +kernel
theorem dX12_isFirsts_2 : decode cX12_isFirsts 2 = .ok (.iload_n 2, 1) := by decide +kernel
theorem dX12_isFirsts_3 : decode cX12_isFirsts 3 = .ok (.iload_n 3, 1) := by decide +kernel
theorem dX12_isFirsts_4 : decode cX12_isFirsts 4 = .ok (.iconst 4, 1) := by decide +kernel
theorem dX12_isFirsts_5 : decode cX12_isFirsts 5 = .ok (.iconst 4, 1) := by decide +kernel
theorem dX12_isFirsts_6 : decode cX12_isFirsts 6 = .ok (.invokevirtual 353, 3) := by decide +kernel
theorem dX12_isFirsts_9 : decode cX12_isFirsts 9 = .ok (.ireturn, 1) := by decide +kernel
set_option maxRecDepth 20000 in
theorem ggX12_fair_X12_isCorner : GoodIn wsX12_fair wsX12_isCorner := goodIn_r _ [7, 2, 40, 41, 42, 43, 44, 45, 46, 47, 48, 49, 50, 51, 52, 53, 54, 55, 56, 57, 58, 59, 60, 61, 62, 63, 64, 65, 66, 67, 68, 69, 70, 71, 72, 73, 74, 75, 76] (by decide +kernel) (by decide +kernel)
set_option maxRecDepth 20000 in
theorem gX12_fair_X12_isCorner : GoodIn wsX12_fair (wsV RX12 316 RX12 yX12_isCorner wsX12_isCorner) := goodIn_app (goodIn_of _ (by decide +kernel)) ggX12_fair_X12_isCorner
set_option maxRecDepth 20000 in
theorem ggX12_fair_X12_in : GoodIn wsX12_fair wsX12_in := goodIn_r _ [10] (by decide +kernel) (by decide +kernel)
set_option maxRecDepth 20000 in
theorem gX12_fair_X12_in : GoodIn wsX12_fair (va_wsS RX12 115 yX12_in wsX12_in) := goodIn_app (goodIn_of _ (by decide +kernel)) ggX12_fair_X12_in
set_option maxRecDepth 20000 in
theorem ggX12_fair_X12_verseOf : GoodIn wsX12_fair wsX12_verseOf := goodIn_r _ [14, 2, 40, 41, 42, 43, 44, 45, 46, 47, 48, 49, 50, 51, 52, 53, 54, 55, 56, 57, 58, 59, 60, 61, 62, 63, 64, 65, 66, 67, 68, 69, 70, 71, 72, 73, 74, 75, 76] (by decide +kernel) (by decide +kernel)
set_option maxRecDepth 20000 in
theorem gX12_fair_X12_verseOf : GoodIn wsX12_fair (wsV RX12 301 RX12 yX12_verseOf wsX12_verseOf) := goodIn_app (goodIn_of _ (by decide +kernel)) ggX12_fair_X12_verseOf
set_option maxRecDepth 20000 in
theorem ggX12_fair_X12_fillsTable : GoodIn wsX12_fair wsX12_fillsTable := goodIn_r _ [18, 19, 8, 9, 6, 10, 20, 21, 22, 23, 24, 25, 26, 27, 28, 2, 29, 30, 31, 32, 33, 34, 35, 40, 41, 42, 43, 44, 45, 46, 47, 48, 49, 50, 51, 52, 53, 54, 55, 56, 57, 58, 59, 60, 61, 62, 63, 64, 65, 66, 67, 68, 69, 70, 71, 72, 73, 74, 75, 76] (by decide +kernel) (by decide +kernel)
set_option maxRecDepth 20000 in
theorem gX12_fair_X12_fillsTable : GoodIn wsX12_fair (wsV RX12 368 RX12 yX12_fillsTable wsX12_fillsTable) := goodIn_app (goodIn_of _ (by decide +kernel)) ggX12_fair_X12_fillsTable
set_option maxRecDepth 20000 in
theorem ggX12_fair_X12_isFirsts : GoodIn wsX12_fair wsX12_isFirsts := goodIn_r _ [39, 29, 30, 31, 6, 32, 24, 33, 34, 35, 40, 41, 42, 43, 44, 45, 46, 47, 48, 49, 50, 51, 52, 53, 54, 55, 56, 57, 58, 59, 60, 61, 62, 63, 64, 65, 66, 67, 68, 69, 70, 71, 72, 73, 74, 75, 76] (by decide +kernel) (by decide +kernel)
set_option maxRecDepth 20000 in
theorem gX12_fair_X12_isFirsts : GoodIn wsX12_fair (wsV RX12 380 RX12 yX12_isFirsts wsX12_isFirsts) := goodIn_app (goodIn_of _ (by decide +kernel)) ggX12_fair_X12_isFirsts
theorem dX12_fair_0 : decode cX12_fair 0 = .ok (.aload_n 0, 1) := by decide +kernel
theorem dX12_fair_1 : decode cX12_fair 1 = .ok (.invokevirtual 316, 3) := by decide +kernel
theorem dX12_fair_4 : decode cX12_fair 4 = .ok (.ifCond .eq 15, 3) := by decide +kernel
theorem dX12_fair_7 : decode cX12_fair 7 = .ok (.iload_n 1, 1) := by decide +kernel
theorem dX12_fair_8 : decode cX12_fair 8 = .ok (.i2l, 1) := by decide +kernel
theorem dX12_fair_9 : decode cX12_fair 9 = .ok (.lconst 0, 1) := by decide +kernel
theorem dX12_fair_10 : decode cX12_fair 10 = .ok (.ldc2_w 319, 3) := by decide +kernel
theorem dX12_fair_13 : decode cX12_fair 13 = .ok (.invokestatic 115, 3) := by decide +kernel
theorem dX12_fair_16 : decode cX12_fair 16 = .ok (.ifCond .ne 5, 3) := by decide +kernel
theorem dX12_fair_19 : decode cX12_fair 19 = .ok (.iconst (-1), 1) := by decide +kernel
theorem dX12_fair_20 : decode cX12_fair 20 = .ok (.ireturn, 1) := by decide +kernel
theorem dX12_fair_21 : decode cX12_fair 21 = .ok (.iconst 0, 1) := by decide +kernel
theorem dX12_fair_22 : decode cX12_fair 22 = .ok (.istore_n 2, 1) := by decide +kernel
theorem dX12_fair_23 : decode cX12_fair 23 = .ok (.iconst 0, 1) := by decide +kernel
theorem dX12_fair_24 : decode cX12_fair 24 = .ok (.istore_n 3, 1) := by decide +kernel
theorem dX12_fair_25 : decode cX12_fair 25 = .ok (.iload_n 3, 1) := by decide +kernel
theorem dX12_fair_26 : decode cX12_fair 26 = .ok (.aload_n 0, 1) := by decide +kernel
theorem dX12_fair_27 : decode cX12_fair 27 = .ok (.getfield 45, 3) := by decide +kernel
theorem dX12_fair_30 : decode cX12_fair 30 = .ok (.iconst 0, 1) := by decide +kernel
theorem dX12_fair_31 : decode cX12_fair 31 = .ok (.iaload, 1) := by decide +kernel
theorem dX12_fair_32 : decode cX12_fair 32 = .ok (.if_icmp .ge 112, 3) := by decide +kernel
theorem dX12_fair_35 : decode cX12_fair 35 = .ok (.aload_n 0, 1) := by decide +kernel
theorem dX12_fair_36 : decode cX12_fair 36 = .ok (.iload_n 3, 1) := by decide +kernel
theorem dX12_fair_37 : decode cX12_fair 37 = .ok (.invokevirtual 301, 3) := by decide +kernel
theorem dX12_fair_40 : decode cX12_fair 40 = .ok (.istore 4, 2) := by decide +kernel
theorem dX12_fair_42 : decode cX12_fair 42 = .ok (.aload_n 0, 1) := by decide +kernel
theorem dX12_fair_43 : decode cX12_fair 43 = .ok (.iload 4, 2) := by decide +kernel
theorem dX12_fair_45 : decode cX12_fair 45 = .ok (.invokevirtual 368, 3) := by decide +kernel
theorem dX12_fair_48 : decode cX12_fair 48 = .ok (.aload_n 0, 1) := by decide +kernel
theorem dX12_fair_49 : decode cX12_fair 49 = .ok (.iload 4, 2) := by decide +kernel
theorem dX12_fair_51 : decode cX12_fair 51 = .ok (.aload_n 0, 1) := by decide +kernel
theorem dX12_fair_52 : decode cX12_fair 52 = .ok (.getfield 45, 3) := by decide +kernel
theorem dX12_fair_55 : decode cX12_fair 55 = .ok (.bipush 12, 2) := by decide +kernel
theorem dX12_fair_57 : decode cX12_fair 57 = .ok (.iaload, 1) := by decide +kernel
theorem dX12_fair_58 : decode cX12_fair 58 = .ok (.aload_n 0, 1) := by decide +kernel
theorem dX12_fair_59 : decode cX12_fair 59 = .ok (.getfield 45, 3) := by decide +kernel
theorem dX12_fair_62 : decode cX12_fair 62 = .ok (.bipush 13, 2) := by decide +kernel
theorem dX12_fair_64 : decode cX12_fair 64 = .ok (.iaload, 1) := by decide +kernel
theorem dX12_fair_65 : decode cX12_fair 65 = .ok (.invokevirtual 380, 3) := by decide +kernel
theorem dX12_fair_68 : decode cX12_fair 68 = .ok (.istore 5, 2) := by decide +kernel
theorem dX12_fair_70 : decode cX12_fair 70 = .ok (.aload_n 0, 1) := by decide +kernel
theorem dX12_fair_71 : decode cX12_fair 71 = .ok (.iload 4, 2) := by decide +kernel
theorem dX12_fair_73 : decode cX12_fair 73 = .ok (.aload_n 0, 1) := by decide +kernel
theorem dX12_fair_74 : decode cX12_fair 74 = .ok (.getfield 45, 3) := by decide +kernel
theorem dX12_fair_77 : decode cX12_fair 77 = .ok (.bipush 13, 2) := by decide +kernel
theorem dX12_fair_79 : decode cX12_fair 79 = .ok (.iaload, 1) := by decide +kernel
theorem dX12_fair_80 : decode cX12_fair 80 = .ok (.aload_n 0, 1) := by decide +kernel
theorem dX12_fair_81 : decode cX12_fair 81 = .ok (.getfield 45, 3) := by decide +kernel
theorem dX12_fair_84 : decode cX12_fair 84 = .ok (.bipush 12, 2) := by decide +kernel
theorem dX12_fair_86 : decode cX12_fair 86 = .ok (.iaload, 1) := by decide +kernel
theorem dX12_fair_87 : decode cX12_fair 87 = .ok (.invokevirtual 380, 3) := by decide +kernel
theorem dX12_fair_90 : decode cX12_fair 90 = .ok (.istore 6, 2) := by decide +kernel
theorem dX12_fair_92 : decode cX12_fair 92 = .ok (.iload 5, 2) := by decide +kernel
theorem dX12_fair_94 : decode cX12_fair 94 = .ok (.ifCond .eq 16, 3) := by decide +kernel
theorem dX12_fair_97 : decode cX12_fair 97 = .ok (.iload 6, 2) := by decide +kernel
theorem dX12_fair_99 : decode cX12_fair 99 = .ok (.ifCond .eq 7, 3) := by decide +kernel
theorem dX12_fair_102 : decode cX12_fair 102 = .ok (.iconst 0, 1) := by decide +kernel
theorem dX12_fair_103 : decode cX12_fair 103 = .ok (.goto 17, 3) := by decide +kernel
theorem dX12_fair_106 : decode cX12_fair 106 = .ok (.iconst 1, 1) := by decide +kernel
theorem dX12_fair_107 : decode cX12_fair 107 = .ok (.goto 13, 3) := by decide +kernel
theorem dX12_fair_110 : decode cX12_fair 110 = .ok (.iload 6, 2) := by decide +kernel
theorem dX12_fair_112 : decode cX12_fair 112 = .ok (.ifCond .eq 7, 3) := by decide +kernel
theorem dX12_fair_115 : decode cX12_fair 115 = .ok (.iconst 2, 1) := by decide +kernel
theorem dX12_fair_116 : decode cX12_fair 116 = .ok (.goto 4, 3) := by decide +kernel
theorem dX12_fair_119 : decode cX12_fair 119 = .ok (.iconst 3, 1) := by decide +kernel
theorem dX12_fair_120 : decode cX12_fair 120 = .ok (.istore 7, 2) := by decide +kernel
theorem dX12_fair_122 : decode cX12_fair 122 = .ok (.iload_n 2, 1) := by decide +kernel
theorem dX12_fair_123 : decode cX12_fair 123 = .ok (.iload 7, 2) := by decide +kernel
theorem dX12_fair_125 : decode cX12_fair 125 = .ok (.iload_n 1, 1) := by decide +kernel
theorem dX12_fair_126 : decode cX12_fair 126 = .ok (.if_icmp .ne 9, 3) := by decide +kernel
theorem dX12_fair_129 : decode cX12_fair 129 = .ok (.iconst 1, 1) := by decide +kernel
theorem dX12_fair_130 : decode cX12_fair 130 = .ok (.iload_n 3, 1) := by decide +kernel
theorem dX12_fair_131 : decode cX12_fair 131 = .ok (.ishl, 1) := by decide +kernel
theorem dX12_fair_132 : decode cX12_fair 132 = .ok (.goto 4, 3) := by decide +kernel
theorem dX12_fair_135 : decode cX12_fair 135 = .ok (.iconst 0, 1) := by decide +kernel
theorem dX12_fair_136 : decode cX12_fair 136 = .ok (.ior, 1) := by decide +kernel
theorem dX12_fair_137 : decode cX12_fair 137 = .ok (.istore_n 2, 1) := by decide +kernel
theorem dX12_fair_138 : decode cX12_fair 138 = .ok (.iinc 3 1, 3) := by decide +kernel
theorem dX12_fair_141 : decode cX12_fair 141 = .ok (.goto (-116), 3) := by decide +kernel
theorem dX12_fair_144 : decode cX12_fair 144 = .ok (.iload_n 2, 1) := by decide +kernel
theorem dX12_fair_145 : decode cX12_fair 145 = .ok (.ireturn, 1) := by decide +kernel
set_option maxRecDepth 20000 in
theorem ggX12_bribes_X12_fillsTable : GoodIn wsX12_bribes wsX12_fillsTable := goodIn_r _ [6, 7, 8, 9, 5, 10, 11, 12, 13, 14, 15, 16, 17, 18, 19, 1, 20, 21, 22, 23, 24, 25, 26, 34, 35, 36, 37, 38, 39, 40, 41, 42, 43, 44, 45, 46, 47, 48, 49, 50, 51, 52, 53, 54, 55, 56, 57, 58, 59, 60, 61, 62, 63, 64, 65, 66, 67, 68, 69, 70] (by decide +kernel) (by decide +kernel)
set_option maxRecDepth 20000 in
theorem gX12_bribes_X12_fillsTable : GoodIn wsX12_bribes (wsV RX12 368 RX12 yX12_fillsTable wsX12_fillsTable) := goodIn_app (goodIn_of _ (by decide +kernel)) ggX12_bribes_X12_fillsTable
set_option maxRecDepth 20000 in
theorem ggX12_bribes_X12_haver : GoodIn wsX12_bribes wsX12_haver := goodIn_r _ [30, 1, 31, 32, 5, 33, 20, 21, 22, 23, 15, 24, 25, 26, 34, 35, 36, 37, 38, 39, 40, 41, 42, 43, 44, 45, 46, 47, 48, 49, 50, 51, 52, 53, 54, 55, 56, 57, 58, 59, 60, 61, 62, 63, 64, 65, 66, 67, 68, 69, 70] (by decide +kernel) (by decide +kernel)
set_option maxRecDepth 20000 in
theorem gX12_bribes_X12_haver : GoodIn wsX12_bribes (wsV RX12 371 RX12 yX12_haver wsX12_haver) := goodIn_app (goodIn_of _ (by decide +kernel)) ggX12_bribes_X12_haver
theorem dX12_bribes_0 : decode cX12_bribes 0 = .ok (.aload_n 0, 1) := by decide +kernel
theorem dX12_bribes_1 : decode cX12_bribes 1 = .ok (.getfield 45, 3) := by decide +kernel
theorem dX12_bribes_4 : decode cX12_bribes 4 = .ok (.iconst 4, 1) := by decide +kernel
theorem dX12_bribes_5 : decode cX12_bribes 5 = .ok (.iaload, 1) := by decide +kernel
theorem dX12_bribes_6 : decode cX12_bribes 6 = .ok (.iload_n 2, 1) := by decide +kernel
theorem dX12_bribes_7 : decode cX12_bribes 7 = .ok (.iadd, 1) := by decide +kernel
theorem dX12_bribes_8 : decode cX12_bribes 8 = .ok (.iconst 1, 1) := by decide +kernel
theorem dX12_bribes_9 : decode cX12_bribes 9 = .ok (.if_icmp .ge 7, 3) := by decide +kernel
theorem dX12_bribes_12 : decode cX12_bribes 12 = .ok (.iconst 1, 1) := by decide +kernel
theorem dX12_bribes_13 : decode cX12_bribes 13 = .ok (.goto 11, 3) := by decide +kernel
theorem dX12_bribes_16 : decode cX12_bribes 16 = .ok (.aload_n 0, 1) := by decide +kernel
theorem dX12_bribes_17 : decode cX12_bribes 17 = .ok (.getfield 45, 3) := by decide +kernel
theorem dX12_bribes_20 : decode cX12_bribes 20 = .ok (.iconst 4, 1) := by decide +kernel
theorem dX12_bribes_21 : decode cX12_bribes 21 = .ok (.iaload, 1) := by decide +kernel
theorem dX12_bribes_22 : decode cX12_bribes 22 = .ok (.iload_n 2, 1) := by decide +kernel
theorem dX12_bribes_23 : decode cX12_bribes 23 = .ok (.iadd, 1) := by decide +kernel
theorem dX12_bribes_24 : decode cX12_bribes 24 = .ok (.istore_n 3, 1) := by decide +kernel
theorem dX12_bribes_25 : decode cX12_bribes 25 = .ok (.aload_n 0, 1) := by decide +kernel
theorem dX12_bribes_26 : decode cX12_bribes 26 = .ok (.getfield 45, 3) := by decide +kernel
theorem dX12_bribes_29 : decode cX12_bribes 29 = .ok (.iconst 5, 1) := by decide +kernel
theorem dX12_bribes_30 : decode cX12_bribes 30 = .ok (.iaload, 1) := by decide +kernel
theorem dX12_bribes_31 : decode cX12_bribes 31 = .ok (.iload_n 2, 1) := by decide +kernel
theorem dX12_bribes_32 : decode cX12_bribes 32 = .ok (.iadd, 1) := by decide +kernel
theorem dX12_bribes_33 : decode cX12_bribes 33 = .ok (.istore 4, 2) := by decide +kernel
theorem dX12_bribes_35 : decode cX12_bribes 35 = .ok (.aload_n 0, 1) := by decide +kernel
theorem dX12_bribes_36 : decode cX12_bribes 36 = .ok (.iload_n 3, 1) := by decide +kernel
theorem dX12_bribes_37 : decode cX12_bribes 37 = .ok (.invokevirtual 368, 3) := by decide +kernel
theorem dX12_bribes_40 : decode cX12_bribes 40 = .ok (.aload_n 0, 1) := by decide +kernel
theorem dX12_bribes_41 : decode cX12_bribes 41 = .ok (.iload 4, 2) := by decide +kernel
theorem dX12_bribes_43 : decode cX12_bribes 43 = .ok (.ifCond .ge 7, 3) := by decide +kernel
theorem dX12_bribes_46 : decode cX12_bribes 46 = .ok (.iconst 0, 1) := by decide +kernel
theorem dX12_bribes_47 : decode cX12_bribes 47 = .ok (.goto 19, 3) := by decide +kernel
theorem dX12_bribes_50 : decode cX12_bribes 50 = .ok (.iload 4, 2) := by decide +kernel
theorem dX12_bribes_52 : decode cX12_bribes 52 = .ok (.sipush 200, 3) := by decide +kernel
theorem dX12_bribes_55 : decode cX12_bribes 55 = .ok (.if_icmp .le 9, 3) := by decide +kernel
theorem dX12_bribes_58 : decode cX12_bribes 58 = .ok (.sipush 200, 3) := by decide +kernel
theorem dX12_bribes_61 : decode cX12_bribes 61 = .ok (.goto 5, 3) := by decide +kernel
theorem dX12_bribes_64 : decode cX12_bribes 64 = .ok (.iload 4, 2) := by decide +kernel
theorem dX12_bribes_66 : decode cX12_bribes 66 = .ok (.aload_n 0, 1) := by decide +kernel
theorem dX12_bribes_67 : decode cX12_bribes 67 = .ok (.getfield 45, 3) := by decide +kernel
theorem dX12_bribes_70 : decode cX12_bribes 70 = .ok (.bipush 12, 2) := by decide +kernel
theorem dX12_bribes_72 : decode cX12_bribes 72 = .ok (.iaload, 1) := by decide +kernel
theorem dX12_bribes_73 : decode cX12_bribes 73 = .ok (.aload_n 0, 1) := by decide +kernel
theorem dX12_bribes_74 : decode cX12_bribes 74 = .ok (.getfield 45, 3) := by decide +kernel
theorem dX12_bribes_77 : decode cX12_bribes 77 = .ok (.bipush 13, 2) := by decide +kernel
theorem dX12_bribes_79 : decode cX12_bribes 79 = .ok (.iaload, 1) := by decide +kernel
theorem dX12_bribes_80 : decode cX12_bribes 80 = .ok (.invokevirtual 371, 3) := by decide +kernel
theorem dX12_bribes_83 : decode cX12_bribes 83 = .ok (.iload_n 1, 1) := by decide +kernel
theorem dX12_bribes_84 : decode cX12_bribes 84 = .ok (.if_icmp .ne 7, 3) := by decide +kernel
theorem dX12_bribes_87 : decode cX12_bribes 87 = .ok (.iconst 1, 1) := by decide +kernel
theorem dX12_bribes_88 : decode cX12_bribes 88 = .ok (.goto 4, 3) := by decide +kernel
theorem dX12_bribes_91 : decode cX12_bribes 91 = .ok (.iconst 0, 1) := by decide +kernel
theorem dX12_bribes_92 : decode cX12_bribes 92 = .ok (.ireturn, 1) := by decide +kernel
set_option maxRecDepth 20000 in
theorem ggX12_bribe_X12_goesOn : GoodIn wsX12_bribe wsX12_goesOn := goodIn_r _ [5, 6, 45, 46, 47, 48, 49, 50, 51, 52, 53, 54, 55, 56, 57, 58, 59, 60, 61, 62, 63, 64, 65, 66, 67, 68, 69, 70, 71, 72, 73, 74, 75, 76, 77, 78, 79, 80, 81] (by decide +kernel) (by decide +kernel)
set_option maxRecDepth 20000 in
theorem gX12_bribe_X12_goesOn : GoodIn wsX12_bribe (wsV RX12 307 RX12 yX12_goesOn wsX12_goesOn) := goodIn_app (goodIn_of _ (by decide +kernel)) ggX12_bribe_X12_goesOn
set_option maxRecDepth 20000 in
theorem ggX12_bribe_X12_isSide : GoodIn wsX12_bribe wsX12_isSide := goodIn_r _ [9] (by decide +kernel) (by decide +kernel)
set_option maxRecDepth 20000 in
theorem gX12_bribe_X12_isSide : GoodIn wsX12_bribe (va_wsS RX12 298 yX12_isSide wsX12_isSide) := goodIn_app (goodIn_of _ (by decide +kernel)) ggX12_bribe_X12_isSide
set_option maxRecDepth 20000 in
theorem ggX12_bribe_X12_bribes : GoodIn wsX12_bribe wsX12_bribes := goodIn_r _ [13, 6, 14, 15, 16, 4, 17, 18, 19, 20, 21, 22, 23, 24, 25, 26, 27, 28, 29, 30, 31, 32, 33, 34, 35, 36, 37, 38, 39, 40, 41, 42, 43, 44, 45, 46, 47, 48, 49, 50, 51, 52, 53, 54, 55, 56, 57, 58, 59, 60, 61, 62, 63, 64, 65, 66, 67, 68, 69, 70, 71, 72, 73, 74, 75, 76, 77, 78, 79, 80, 81] (by decide +kernel) (by decide +kernel)
set_option maxRecDepth 20000 in
theorem gX12_bribe_X12_bribes : GoodIn wsX12_bribe (wsV RX12 384 RX12 yX12_bribes wsX12_bribes) := goodIn_app (goodIn_of _ (by decide +kernel)) ggX12_bribe_X12_bribes
theorem dX12_bribe_0 : decode cX12_bribe 0 = .ok (.aload_n 0, 1) := by decide +kernel
theorem dX12_bribe_1 : decode cX12_bribe 1 = .ok (.invokevirtual 307, 3) := by decide +kernel
theorem dX12_bribe_4 : decode cX12_bribe 4 = .ok (.ifCond .eq 10, 3) := by decide +kernel
theorem dX12_bribe_7 : decode cX12_bribe 7 = .ok (.iload_n 1, 1) := by decide +kernel
theorem dX12_bribe_8 : decode cX12_bribe 8 = .ok (.invokestatic 298, 3) := by decide +kernel
theorem dX12_bribe_11 : decode cX12_bribe 11 = .ok (.ifCond .ne 7, 3) := by decide +kernel
theorem dX12_bribe_14 : decode cX12_bribe 14 = .ok (.sipush (-200), 3) := by decide +kernel
theorem dX12_bribe_17 : decode cX12_bribe 17 = .ok (.ireturn, 1) := by decide +kernel
theorem dX12_bribe_18 : decode cX12_bribe 18 = .ok (.aload_n 0, 1) := by decide +kernel
theorem dX12_bribe_19 : decode cX12_bribe 19 = .ok (.iload_n 1, 1) := by decide +kernel
theorem dX12_bribe_20 : decode cX12_bribe 20 = .ok (.iconst 0, 1) := by decide +kernel
theorem dX12_bribe_21 : decode cX12_bribe 21 = .ok (.invokevirtual 384, 3) := by decide +kernel
theorem dX12_bribe_24 : decode cX12_bribe 24 = .ok (.ifCond .eq 5, 3) := by decide +kernel
theorem dX12_bribe_27 : decode cX12_bribe 27 = .ok (.iconst 0, 1) := by decide +kernel
theorem dX12_bribe_28 : decode cX12_bribe 28 = .ok (.ireturn, 1) := by decide +kernel
theorem dX12_bribe_29 : decode cX12_bribe 29 = .ok (.iconst 1, 1) := by decide +kernel
theorem dX12_bribe_30 : decode cX12_bribe 30 = .ok (.istore_n 2, 1) := by decide +kernel
theorem dX12_bribe_31 : decode cX12_bribe 31 = .ok (.iload_n 2, 1) := by decide +kernel
theorem dX12_bribe_32 : decode cX12_bribe 32 = .ok (.bipush 20, 2) := by decide +kernel
theorem dX12_bribe_34 : decode cX12_bribe 34 = .ok (.if_icmp .gt 33, 3) := by decide +kernel
theorem dX12_bribe_37 : decode cX12_bribe 37 = .ok (.aload_n 0, 1) := by decide +kernel
theorem dX12_bribe_38 : decode cX12_bribe 38 = .ok (.iload_n 1, 1) := by decide +kernel
theorem dX12_bribe_39 : decode cX12_bribe 39 = .ok (.iload_n 2, 1) := by decide +kernel
theorem dX12_bribe_40 : decode cX12_bribe 40 = .ok (.ineg, 1) := by decide +kernel
theorem dX12_bribe_41 : decode cX12_bribe 41 = .ok (.invokevirtual 384, 3) := by decide +kernel
theorem dX12_bribe_44 : decode cX12_bribe 44 = .ok (.ifCond .eq 6, 3) := by decide +kernel
theorem dX12_bribe_47 : decode cX12_bribe 47 = .ok (.iload_n 2, 1) := by decide +kernel
theorem dX12_bribe_48 : decode cX12_bribe 48 = .ok (.ineg, 1) := by decide +kernel
theorem dX12_bribe_49 : decode cX12_bribe 49 = .ok (.ireturn, 1) := by decide +kernel
theorem dX12_bribe_50 : decode cX12_bribe 50 = .ok (.aload_n 0, 1) := by decide +kernel
theorem dX12_bribe_51 : decode cX12_bribe 51 = .ok (.iload_n 1, 1) := by decide +kernel
theorem dX12_bribe_52 : decode cX12_bribe 52 = .ok (.iload_n 2, 1) := by decide +kernel
theorem dX12_bribe_53 : decode cX12_bribe 53 = .ok (.invokevirtual 384, 3) := by decide +kernel
theorem dX12_bribe_56 : decode cX12_bribe 56 = .ok (.ifCond .eq 5, 3) := by decide +kernel
theorem dX12_bribe_59 : decode cX12_bribe 59 = .ok (.iload_n 2, 1) := by decide +kernel
theorem dX12_bribe_60 : decode cX12_bribe 60 = .ok (.ireturn, 1) := by decide +kernel
theorem dX12_bribe_61 : decode cX12_bribe 61 = .ok (.iinc 2 1, 3) := by decide +kernel
theorem dX12_bribe_64 : decode cX12_bribe 64 = .ok (.goto (-33), 3) := by decide +kernel
theorem dX12_bribe_67 : decode cX12_bribe 67 = .ok (.bipush (-100), 2) := by decide +kernel
theorem dX12_bribe_69 : decode cX12_bribe 69 = .ok (.ireturn, 1) := by decide +kernel
theorem dX12_keepsAt_0 : decode cX12_keepsAt 0 = .ok (.iconst 0, 1) := by decide +kernel
theorem dX12_keepsAt_1 : decode cX12_keepsAt 1 = .ok (.istore_n 2, 1) := by decide +kernel
theorem dX12_keepsAt_2 : decode cX12_keepsAt 2 = .ok (.iload_n 2, 1) := by decide +kernel
theorem dX12_keepsAt_3 : decode cX12_keepsAt 3 = .ok (.bipush 44, 2) := by decide +kernel
theorem dX12_keepsAt_5 : decode cX12_keepsAt 5 = .ok (.if_icmp .ge 26, 3) := by decide +kernel
theorem dX12_keepsAt_8 : decode cX12_keepsAt 8 = .ok (.aload_n 0, 1) := by decide +kernel
theorem dX12_keepsAt_9 : decode cX12_keepsAt 9 = .ok (.getfield 54, 3) := by decide +kernel
theorem dX12_keepsAt_12 : decode cX12_keepsAt 12 = .ok (.bipush 44, 2) := by decide +kernel
theorem dX12_keepsAt_14 : decode cX12_keepsAt 14 = .ok (.iload_n 1, 1) := by decide +kernel
theorem dX12_keepsAt_15 : decode cX12_keepsAt 15 = .ok (.imul, 1) := by decide +kernel
theorem dX12_keepsAt_16 : decode cX12_keepsAt 16 = .ok (.iload_n 2, 1) := by decide +kernel
theorem dX12_keepsAt_17 : decode cX12_keepsAt 17 = .ok (.iadd, 1) := by decide +kernel
theorem dX12_keepsAt_18 : decode cX12_keepsAt 18 = .ok (.aload_n 0, 1) := by decide +kernel
theorem dX12_keepsAt_19 : decode cX12_keepsAt 19 = .ok (.getfield 45, 3) := by decide +kernel
theorem dX12_keepsAt_22 : decode cX12_keepsAt 22 = .ok (.iload_n 2, 1) := by decide +kernel
theorem dX12_keepsAt_23 : decode cX12_keepsAt 23 = .ok (.iaload, 1) := by decide +kernel
theorem dX12_keepsAt_24 : decode cX12_keepsAt 24 = .ok (.iastore, 1) := by decide +kernel
theorem dX12_keepsAt_25 : decode cX12_keepsAt 25 = .ok (.iinc 2 1, 3) := by decide +kernel
theorem dX12_keepsAt_28 : decode cX12_keepsAt 28 = .ok (.goto (-26), 3) := by decide +kernel
theorem dX12_keepsAt_31 : decode cX12_keepsAt 31 = .ok (.aload_n 0, 1) := by decide +kernel
theorem dX12_keepsAt_32 : decode cX12_keepsAt 32 = .ok (.getfield 57, 3) := by decide +kernel
theorem dX12_keepsAt_35 : decode cX12_keepsAt 35 = .ok (.iload_n 1, 1) := by decide +kernel
theorem dX12_keepsAt_36 : decode cX12_keepsAt 36 = .ok (.iconst (-1), 1) := by decide +kernel
theorem dX12_keepsAt_37 : decode cX12_keepsAt 37 = .ok (.iastore, 1) := by decide +kernel
theorem dX12_keepsAt_38 : decode cX12_keepsAt 38 = .ok (.return_, 1) := by decide +kernel
theorem dX12_putsBackAt_0 : decode cX12_putsBackAt 0 = .ok (.iconst 0, 1) := by decide +kernel
theorem dX12_putsBackAt_1 : decode cX12_putsBackAt 1 = .ok (.istore_n 2, 1) := by decide +kernel
theorem dX12_putsBackAt_2 : decode cX12_putsBackAt 2 = .ok (.iload_n 2, 1) := by decide +kernel
theorem dX12_putsBackAt_3 : decode cX12_putsBackAt 3 = .ok (.bipush 44, 2) := by decide +kernel
theorem dX12_putsBackAt_5 : decode cX12_putsBackAt 5 = .ok (.if_icmp .ge 26, 3) := by decide +kernel
theorem dX12_putsBackAt_8 : decode cX12_putsBackAt 8 = .ok (.aload_n 0, 1) := by decide +kernel
theorem dX12_putsBackAt_9 : decode cX12_putsBackAt 9 = .ok (.getfield 45, 3) := by decide +kernel
theorem dX12_putsBackAt_12 : decode cX12_putsBackAt 12 = .ok (.iload_n 2, 1) := by decide +kernel
theorem dX12_putsBackAt_13 : decode cX12_putsBackAt 13 = .ok (.aload_n 0, 1) := by decide +kernel
theorem dX12_putsBackAt_14 : decode cX12_putsBackAt 14 = .ok (.getfield 54, 3) := by decide +kernel
theorem dX12_putsBackAt_17 : decode cX12_putsBackAt 17 = .ok (.bipush 44, 2) := by decide +kernel
theorem dX12_putsBackAt_19 : decode cX12_putsBackAt 19 = .ok (.iload_n 1, 1) := by decide +kernel
theorem dX12_putsBackAt_20 : decode cX12_putsBackAt 20 = .ok (.imul, 1) := by decide +kernel
theorem dX12_putsBackAt_21 : decode cX12_putsBackAt 21 = .ok (.iload_n 2, 1) := by decide +kernel
theorem dX12_putsBackAt_22 : decode cX12_putsBackAt 22 = .ok (.iadd, 1) := by decide +kernel
theorem dX12_putsBackAt_23 : decode cX12_putsBackAt 23 = .ok (.iaload, 1) := by decide +kernel
theorem dX12_putsBackAt_24 : decode cX12_putsBackAt 24 = .ok (.iastore, 1) := by decide +kernel
theorem dX12_putsBackAt_25 : decode cX12_putsBackAt 25 = .ok (.iinc 2 1, 3) := by decide +kernel
theorem dX12_putsBackAt_28 : decode cX12_putsBackAt 28 = .ok (.goto (-26), 3) := by decide +kernel
theorem dX12_putsBackAt_31 : decode cX12_putsBackAt 31 = .ok (.return_, 1) := by decide +kernel
set_option maxRecDepth 20000 in
theorem ggX12_doesNext_X12_canSay : GoodIn wsX12_doesNext wsX12_canSay := goodIn_r _ [6, 7, 37, 38, 39, 40, 41, 42, 43, 44, 45, 46, 47, 48, 49, 50, 51, 52, 53, 54, 55, 56, 57, 58, 59, 60, 61, 62, 63, 64, 65, 66, 67, 68, 69, 70, 71, 72, 73] (by decide +kernel) (by decide +kernel)
set_option maxRecDepth 20000 in
theorem gX12_doesNext_X12_canSay : GoodIn wsX12_doesNext (wsV RX12 277 RX12 yX12_canSay wsX12_canSay) := goodIn_app (goodIn_of _ (by decide +kernel)) ggX12_doesNext_X12_canSay
set_option maxRecDepth 20000 in
theorem ggX12_doesNext_X12_canThrow : GoodIn wsX12_doesNext wsX12_canThrow := goodIn_r _ [11, 7, 37, 38, 39, 40, 41, 42, 43, 44, 45, 46, 47, 48, 49, 50, 51, 52, 53, 54, 55, 56, 57, 58, 59, 60, 61, 62, 63, 64, 65, 66, 67, 68, 69, 70, 71, 72, 73] (by decide +kernel) (by decide +kernel)
set_option maxRecDepth 20000 in
theorem gX12_doesNext_X12_canThrow : GoodIn wsX12_doesNext (wsV RX12 280 RX12 yX12_canThrow wsX12_canThrow) := goodIn_app (goodIn_of _ (by decide +kernel)) ggX12_doesNext_X12_canThrow
set_option maxRecDepth 20000 in
theorem ggX12_doesNext_X12_says : GoodIn wsX12_doesNext wsX12_says := goodIn_r _ [15, 7, 16, 17, 18, 5, 19, 20, 21, 22, 23, 2, 3, 4, 6, 8, 9, 10, 11, 24, 25, 26, 27, 28, 29, 30, 31, 32, 37, 38, 39, 40, 41, 42, 43, 44, 45, 46, 47, 48, 49, 50, 51, 52, 53, 54, 55, 56, 57, 58, 59, 60, 61, 62, 63, 64, 65, 66, 67, 68, 69, 70, 71, 72, 73] (by decide +kernel) (by decide +kernel)
set_option maxRecDepth 20000 in
theorem gX12_doesNext_X12_says : GoodIn wsX12_doesNext (wsV RX12 310 RX12 yX12_says wsX12_says) := goodIn_app (goodIn_of _ (by decide +kernel)) ggX12_doesNext_X12_says
set_option maxRecDepth 20000 in
theorem ggX12_doesNext_X12_throwsOne : GoodIn wsX12_doesNext wsX12_throwsOne := goodIn_r _ [36, 7, 16, 17, 18, 5, 19, 20, 21, 22, 23, 2, 3, 4, 6, 8, 9, 10, 11, 24, 25, 26, 27, 28, 29, 30, 31, 32, 37, 38, 39, 40, 41, 42, 43, 44, 45, 46, 47, 48, 49, 50, 51, 52, 53, 54, 55, 56, 57, 58, 59, 60, 61, 62, 63, 64, 65, 66, 67, 68, 69, 70, 71, 72, 73] (by decide +kernel) (by decide +kernel)
set_option maxRecDepth 20000 in
theorem gX12_doesNext_X12_throwsOne : GoodIn wsX12_doesNext (wsV RX12 313 RX12 yX12_throwsOne wsX12_throwsOne) := goodIn_app (goodIn_of _ (by decide +kernel)) ggX12_doesNext_X12_throwsOne
set_option maxRecDepth 20000 in
theorem ggX12_doesNext_X12_ends : GoodIn wsX12_doesNext wsX12_ends := goodIn_r _ [27, 28, 7, 29, 30, 31, 5, 32, 37, 38, 39, 40, 41, 42, 43, 44, 45, 46, 47, 48, 49, 50, 51, 52, 53, 54, 55, 56, 57, 58, 59, 60, 61, 62, 63, 64, 65, 66, 67, 68, 69, 70, 71, 72, 73] (by decide +kernel) (by decide +kernel)
set_option maxRecDepth 20000 in
theorem gX12_doesNext_X12_ends : GoodIn wsX12_doesNext (wsV RX12 292 RX12 yX12_ends wsX12_ends) := goodIn_app (goodIn_of _ (by decide +kernel)) ggX12_doesNext_X12_ends
theorem dX12_doesNext_0 : decode cX12_doesNext 0 = .ok (.aload_n 0, 1) := by decide +kernel
theorem dX12_doesNext_1 : decode cX12_doesNext 1 = .ok (.getfield 57, 3) := by decide +kernel
theorem dX12_doesNext_4 : decode cX12_doesNext 4 = .ok (.iload_n 1, 1) := by decide +kernel
theorem dX12_doesNext_5 : decode cX12_doesNext 5 = .ok (.dup2, 1) := by decide +kernel
theorem dX12_doesNext_6 : decode cX12_doesNext 6 = .ok (.iaload, 1) := by decide +kernel
theorem dX12_doesNext_7 : decode cX12_doesNext 7 = .ok (.iconst 1, 1) := by decide +kernel
theorem dX12_doesNext_8 : decode cX12_doesNext 8 = .ok (.iadd, 1) := by decide +kernel
theorem dX12_doesNext_9 : decode cX12_doesNext 9 = .ok (.iastore, 1) := by decide +kernel
theorem dX12_doesNext_10 : decode cX12_doesNext 10 = .ok (.aload_n 0, 1) := by decide +kernel
theorem dX12_doesNext_11 : decode cX12_doesNext 11 = .ok (.getfield 57, 3) := by decide +kernel
theorem dX12_doesNext_14 : decode cX12_doesNext 14 = .ok (.iload_n 1, 1) := by decide +kernel
theorem dX12_doesNext_15 : decode cX12_doesNext 15 = .ok (.iaload, 1) := by decide +kernel
theorem dX12_doesNext_16 : decode cX12_doesNext 16 = .ok (.iconst 4, 1) := by decide +kernel
theorem dX12_doesNext_17 : decode cX12_doesNext 17 = .ok (.if_icmp .ge 29, 3) := by decide +kernel
theorem dX12_doesNext_20 : decode cX12_doesNext 20 = .ok (.aload_n 0, 1) := by decide +kernel
theorem dX12_doesNext_21 : decode cX12_doesNext 21 = .ok (.aload_n 0, 1) := by decide +kernel
theorem dX12_doesNext_22 : decode cX12_doesNext 22 = .ok (.getfield 57, 3) := by decide +kernel
theorem dX12_doesNext_25 : decode cX12_doesNext 25 = .ok (.iload_n 1, 1) := by decide +kernel
theorem dX12_doesNext_26 : decode cX12_doesNext 26 = .ok (.iaload, 1) := by decide +kernel
theorem dX12_doesNext_27 : decode cX12_doesNext 27 = .ok (.invokevirtual 277, 3) := by decide +kernel
theorem dX12_doesNext_30 : decode cX12_doesNext 30 = .ok (.ifCond .ne 16, 3) := by decide +kernel
theorem dX12_doesNext_33 : decode cX12_doesNext 33 = .ok (.aload_n 0, 1) := by decide +kernel
theorem dX12_doesNext_34 : decode cX12_doesNext 34 = .ok (.getfield 57, 3) := by decide +kernel
theorem dX12_doesNext_37 : decode cX12_doesNext 37 = .ok (.iload_n 1, 1) := by decide +kernel
theorem dX12_doesNext_38 : decode cX12_doesNext 38 = .ok (.dup2, 1) := by decide +kernel
theorem dX12_doesNext_39 : decode cX12_doesNext 39 = .ok (.iaload, 1) := by decide +kernel
theorem dX12_doesNext_40 : decode cX12_doesNext 40 = .ok (.iconst 1, 1) := by decide +kernel
theorem dX12_doesNext_41 : decode cX12_doesNext 41 = .ok (.iadd, 1) := by decide +kernel
theorem dX12_doesNext_42 : decode cX12_doesNext 42 = .ok (.iastore, 1) := by decide +kernel
theorem dX12_doesNext_43 : decode cX12_doesNext 43 = .ok (.goto (-33), 3) := by decide +kernel
theorem dX12_doesNext_46 : decode cX12_doesNext 46 = .ok (.aload_n 0, 1) := by decide +kernel
theorem dX12_doesNext_47 : decode cX12_doesNext 47 = .ok (.getfield 57, 3) := by decide +kernel
theorem dX12_doesNext_50 : decode cX12_doesNext 50 = .ok (.iload_n 1, 1) := by decide +kernel
theorem dX12_doesNext_51 : decode cX12_doesNext 51 = .ok (.iaload, 1) := by decide +kernel
theorem dX12_doesNext_52 : decode cX12_doesNext 52 = .ok (.iconst 4, 1) := by decide +kernel
theorem dX12_doesNext_53 : decode cX12_doesNext 53 = .ok (.if_icmp .ne 20, 3) := by decide +kernel
theorem dX12_doesNext_56 : decode cX12_doesNext 56 = .ok (.aload_n 0, 1) := by decide +kernel
theorem dX12_doesNext_57 : decode cX12_doesNext 57 = .ok (.invokevirtual 280, 3) := by decide +kernel
theorem dX12_doesNext_60 : decode cX12_doesNext 60 = .ok (.ifCond .ne 13, 3) := by decide +kernel
theorem dX12_doesNext_63 : decode cX12_doesNext 63 = .ok (.aload_n 0, 1) := by decide +kernel
theorem dX12_doesNext_64 : decode cX12_doesNext 64 = .ok (.getfield 57, 3) := by decide +kernel
theorem dX12_doesNext_67 : decode cX12_doesNext 67 = .ok (.iload_n 1, 1) := by decide +kernel
theorem dX12_doesNext_68 : decode cX12_doesNext 68 = .ok (.dup2, 1) := by decide +kernel
theorem dX12_doesNext_69 : decode cX12_doesNext 69 = .ok (.iaload, 1) := by decide +kernel
theorem dX12_doesNext_70 : decode cX12_doesNext 70 = .ok (.iconst 1, 1) := by decide +kernel
theorem dX12_doesNext_71 : decode cX12_doesNext 71 = .ok (.iadd, 1) := by decide +kernel
theorem dX12_doesNext_72 : decode cX12_doesNext 72 = .ok (.iastore, 1) := by decide +kernel
theorem dX12_doesNext_73 : decode cX12_doesNext 73 = .ok (.aload_n 0, 1) := by decide +kernel
theorem dX12_doesNext_74 : decode cX12_doesNext 74 = .ok (.getfield 57, 3) := by decide +kernel
theorem dX12_doesNext_77 : decode cX12_doesNext 77 = .ok (.iload_n 1, 1) := by decide +kernel
theorem dX12_doesNext_78 : decode cX12_doesNext 78 = .ok (.iaload, 1) := by decide +kernel
theorem dX12_doesNext_79 : decode cX12_doesNext 79 = .ok (.iconst 5, 1) := by decide +kernel
theorem dX12_doesNext_80 : decode cX12_doesNext 80 = .ok (.if_icmp .le 5, 3) := by decide +kernel
theorem dX12_doesNext_83 : decode cX12_doesNext 83 = .ok (.iconst 0, 1) := by decide +kernel
theorem dX12_doesNext_84 : decode cX12_doesNext 84 = .ok (.ireturn, 1) := by decide +kernel
theorem dX12_doesNext_85 : decode cX12_doesNext 85 = .ok (.aload_n 0, 1) := by decide +kernel
theorem dX12_doesNext_86 : decode cX12_doesNext 86 = .ok (.getfield 57, 3) := by decide +kernel
theorem dX12_doesNext_89 : decode cX12_doesNext 89 = .ok (.iload_n 1, 1) := by decide +kernel
theorem dX12_doesNext_90 : decode cX12_doesNext 90 = .ok (.iaload, 1) := by decide +kernel
theorem dX12_doesNext_91 : decode cX12_doesNext 91 = .ok (.iconst 4, 1) := by decide +kernel
theorem dX12_doesNext_92 : decode cX12_doesNext 92 = .ok (.if_icmp .ge 16, 3) := by decide +kernel
theorem dX12_doesNext_95 : decode cX12_doesNext 95 = .ok (.aload_n 0, 1) := by decide +kernel
theorem dX12_doesNext_96 : decode cX12_doesNext 96 = .ok (.aload_n 0, 1) := by decide +kernel
theorem dX12_doesNext_97 : decode cX12_doesNext 97 = .ok (.getfield 57, 3) := by decide +kernel
theorem dX12_doesNext_100 : decode cX12_doesNext 100 = .ok (.iload_n 1, 1) := by decide +kernel
theorem dX12_doesNext_101 : decode cX12_doesNext 101 = .ok (.iaload, 1) := by decide +kernel
theorem dX12_doesNext_102 : decode cX12_doesNext 102 = .ok (.invokevirtual 310, 3) := by decide +kernel
theorem dX12_doesNext_105 : decode cX12_doesNext 105 = .ok (.goto 25, 3) := by decide +kernel
theorem dX12_doesNext_108 : decode cX12_doesNext 108 = .ok (.aload_n 0, 1) := by decide +kernel
theorem dX12_doesNext_109 : decode cX12_doesNext 109 = .ok (.getfield 57, 3) := by decide +kernel
theorem dX12_doesNext_112 : decode cX12_doesNext 112 = .ok (.iload_n 1, 1) := by decide +kernel
theorem dX12_doesNext_113 : decode cX12_doesNext 113 = .ok (.iaload, 1) := by decide +kernel
theorem dX12_doesNext_114 : decode cX12_doesNext 114 = .ok (.iconst 4, 1) := by decide +kernel
theorem dX12_doesNext_115 : decode cX12_doesNext 115 = .ok (.if_icmp .ne 10, 3) := by decide +kernel
theorem dX12_doesNext_118 : decode cX12_doesNext 118 = .ok (.aload_n 0, 1) := by decide +kernel
theorem dX12_doesNext_119 : decode cX12_doesNext 119 = .ok (.invokevirtual 313, 3) := by decide +kernel
theorem dX12_doesNext_122 : decode cX12_doesNext 122 = .ok (.goto 8, 3) := by decide +kernel
theorem dX12_doesNext_125 : decode cX12_doesNext 125 = .ok (.aload_n 0, 1) := by decide +kernel
theorem dX12_doesNext_126 : decode cX12_doesNext 126 = .ok (.invokevirtual 292, 3) := by decide +kernel
theorem dX12_doesNext_129 : decode cX12_doesNext 129 = .ok (.pop, 1) := by decide +kernel
theorem dX12_doesNext_130 : decode cX12_doesNext 130 = .ok (.iconst 1, 1) := by decide +kernel
theorem dX12_doesNext_131 : decode cX12_doesNext 131 = .ok (.ireturn, 1) := by decide +kernel
set_option maxRecDepth 20000 in
theorem ggX12_plays_X12_goesOn : GoodIn wsX12_plays wsX12_goesOn := goodIn_r _ [9, 3, 62, 63, 64, 65, 66, 67, 68, 69, 70, 71, 72, 73, 74, 75, 76, 77, 78, 79, 80, 81, 82, 83, 84, 85, 86, 87, 88, 89, 90, 91, 92, 93, 94, 95, 96, 97, 98] (by decide +kernel) (by decide +kernel)
set_option maxRecDepth 20000 in
theorem gX12_plays_X12_goesOn : GoodIn wsX12_plays (wsV RX12 307 RX12 yX12_goesOn wsX12_goesOn) := goodIn_app (goodIn_of _ (by decide +kernel)) ggX12_plays_X12_goesOn
set_option maxRecDepth 20000 in
theorem ggX12_plays_X12_in : GoodIn wsX12_plays wsX12_in := goodIn_r _ [12] (by decide +kernel) (by decide +kernel)
set_option maxRecDepth 20000 in
theorem gX12_plays_X12_in : GoodIn wsX12_plays (va_wsS RX12 115 yX12_in wsX12_in) := goodIn_app (goodIn_of _ (by decide +kernel)) ggX12_plays_X12_in
set_option maxRecDepth 20000 in
theorem ggX12_plays_X12_isSide : GoodIn wsX12_plays wsX12_isSide := goodIn_r _ [15] (by decide +kernel) (by decide +kernel)
set_option maxRecDepth 20000 in
theorem gX12_plays_X12_isSide : GoodIn wsX12_plays (va_wsS RX12 298 yX12_isSide wsX12_isSide) := goodIn_app (goodIn_of _ (by decide +kernel)) ggX12_plays_X12_isSide
set_option maxRecDepth 20000 in
theorem ggX12_plays_X12_keepsAt : GoodIn wsX12_plays wsX12_keepsAt := goodIn_r _ [19, 20, 3, 21, 62, 63, 64, 65, 66, 67, 68, 69, 70, 71, 72, 73, 74, 75, 76, 77, 78, 79, 80, 81, 82, 83, 84, 85, 86, 87, 88, 89, 90, 91, 92, 93, 94, 95, 96, 97, 98] (by decide +kernel) (by decide +kernel)
set_option maxRecDepth 20000 in
theorem gX12_plays_X12_keepsAt : GoodIn wsX12_plays (wsV RX12 391 RX12 yX12_keepsAt wsX12_keepsAt) := goodIn_app (goodIn_of _ (by decide +kernel)) ggX12_plays_X12_keepsAt
set_option maxRecDepth 20000 in
theorem ggX12_plays_X12_putsBackAt : GoodIn wsX12_plays wsX12_putsBackAt := goodIn_r _ [25, 3, 20, 62, 63, 64, 65, 66, 67, 68, 69, 70, 71, 72, 73, 74, 75, 76, 77, 78, 79, 80, 81, 82, 83, 84, 85, 86, 87, 88, 89, 90, 91, 92, 93, 94, 95, 96, 97, 98] (by decide +kernel) (by decide +kernel)
set_option maxRecDepth 20000 in
theorem gX12_plays_X12_putsBackAt : GoodIn wsX12_plays (wsV RX12 394 RX12 yX12_putsBackAt wsX12_putsBackAt) := goodIn_app (goodIn_of _ (by decide +kernel)) ggX12_plays_X12_putsBackAt
set_option maxRecDepth 20000 in
theorem ggX12_plays_X12_doesNext : GoodIn wsX12_plays wsX12_doesNext := goodIn_r _ [29, 21, 30, 31, 32, 8, 33, 3, 34, 35, 36, 37, 38, 39, 40, 41, 42, 43, 44, 45, 46, 47, 48, 49, 50, 51, 52, 53, 4, 54, 55, 56, 57, 58, 59, 60, 61, 62, 63, 64, 65, 66, 67, 68, 69, 70, 71, 72, 73, 74, 75, 76, 77, 78, 79, 80, 81, 82, 83, 84, 85, 86, 87, 88, 89, 90, 91, 92, 93, 94, 95, 96, 97, 98] (by decide +kernel) (by decide +kernel)
set_option maxRecDepth 20000 in
theorem gX12_plays_X12_doesNext : GoodIn wsX12_plays (wsV RX12 397 RX12 yX12_doesNext wsX12_doesNext) := goodIn_app (goodIn_of _ (by decide +kernel)) ggX12_plays_X12_doesNext
theorem dX12_plays_0 : decode cX12_plays 0 = .ok (.aload_n 0, 1) := by decide +kernel
theorem dX12_plays_1 : decode cX12_plays 1 = .ok (.invokevirtual 307, 3) := by decide +kernel
theorem dX12_plays_4 : decode cX12_plays 4 = .ok (.ifCond .eq 34, 3) := by decide +kernel
theorem dX12_plays_7 : decode cX12_plays 7 = .ok (.iload_n 1, 1) := by decide +kernel
theorem dX12_plays_8 : decode cX12_plays 8 = .ok (.i2l, 1) := by decide +kernel
theorem dX12_plays_9 : decode cX12_plays 9 = .ok (.lconst 0, 1) := by decide +kernel
theorem dX12_plays_10 : decode cX12_plays 10 = .ok (.ldc2_w 387, 3) := by decide +kernel
theorem dX12_plays_13 : decode cX12_plays 13 = .ok (.invokestatic 115, 3) := by decide +kernel
theorem dX12_plays_16 : decode cX12_plays 16 = .ok (.ifCond .eq 22, 3) := by decide +kernel
theorem dX12_plays_19 : decode cX12_plays 19 = .ok (.iload_n 2, 1) := by decide +kernel
theorem dX12_plays_20 : decode cX12_plays 20 = .ok (.i2l, 1) := by decide +kernel
theorem dX12_plays_21 : decode cX12_plays 21 = .ok (.lconst 0, 1) := by decide +kernel
theorem dX12_plays_22 : decode cX12_plays 22 = .ok (.ldc2_w 389, 3) := by decide +kernel
theorem dX12_plays_25 : decode cX12_plays 25 = .ok (.invokestatic 115, 3) := by decide +kernel
theorem dX12_plays_28 : decode cX12_plays 28 = .ok (.ifCond .eq 10, 3) := by decide +kernel
theorem dX12_plays_31 : decode cX12_plays 31 = .ok (.iload_n 3, 1) := by decide +kernel
theorem dX12_plays_32 : decode cX12_plays 32 = .ok (.invokestatic 298, 3) := by decide +kernel
theorem dX12_plays_35 : decode cX12_plays 35 = .ok (.ifCond .ne 6, 3) := by decide +kernel
theorem dX12_plays_38 : decode cX12_plays 38 = .ok (.bipush (-2), 2) := by decide +kernel
theorem dX12_plays_40 : decode cX12_plays 40 = .ok (.ireturn, 1) := by decide +kernel
theorem dX12_plays_41 : decode cX12_plays 41 = .ok (.aload_n 0, 1) := by decide +kernel
theorem dX12_plays_42 : decode cX12_plays 42 = .ok (.getfield 45, 3) := by decide +kernel
theorem dX12_plays_45 : decode cX12_plays 45 = .ok (.bipush 9, 2) := by decide +kernel
theorem dX12_plays_47 : decode cX12_plays 47 = .ok (.iaload, 1) := by decide +kernel
theorem dX12_plays_48 : decode cX12_plays 48 = .ok (.istore 4, 2) := by decide +kernel
theorem dX12_plays_50 : decode cX12_plays 50 = .ok (.iconst 0, 1) := by decide +kernel
theorem dX12_plays_51 : decode cX12_plays 51 = .ok (.istore 5, 2) := by decide +kernel
theorem dX12_plays_53 : decode cX12_plays 53 = .ok (.iload_n 1, 1) := by decide +kernel
theorem dX12_plays_54 : decode cX12_plays 54 = .ok (.ifCond .ne 7, 3) := by decide +kernel
theorem dX12_plays_57 : decode cX12_plays 57 = .ok (.iconst (-1), 1) := by decide +kernel
theorem dX12_plays_58 : decode cX12_plays 58 = .ok (.goto 4, 3) := by decide +kernel
theorem dX12_plays_61 : decode cX12_plays 61 = .ok (.iconst 0, 1) := by decide +kernel
theorem dX12_plays_62 : decode cX12_plays 62 = .ok (.istore 6, 2) := by decide +kernel
theorem dX12_plays_64 : decode cX12_plays 64 = .ok (.aload_n 0, 1) := by decide +kernel
theorem dX12_plays_65 : decode cX12_plays 65 = .ok (.iconst 0, 1) := by decide +kernel
theorem dX12_plays_66 : decode cX12_plays 66 = .ok (.invokevirtual 391, 3) := by decide +kernel
theorem dX12_plays_69 : decode cX12_plays 69 = .ok (.iload 6, 2) := by decide +kernel
theorem dX12_plays_71 : decode cX12_plays 71 = .ok (.ifCond .lt 86, 3) := by decide +kernel
theorem dX12_plays_74 : decode cX12_plays 74 = .ok (.aload_n 0, 1) := by decide +kernel
theorem dX12_plays_75 : decode cX12_plays 75 = .ok (.iload 6, 2) := by decide +kernel
theorem dX12_plays_77 : decode cX12_plays 77 = .ok (.invokevirtual 394, 3) := by decide +kernel
theorem dX12_plays_80 : decode cX12_plays 80 = .ok (.aload_n 0, 1) := by decide +kernel
theorem dX12_plays_81 : decode cX12_plays 81 = .ok (.iload 6, 2) := by decide +kernel
theorem dX12_plays_83 : decode cX12_plays 83 = .ok (.invokevirtual 397, 3) := by decide +kernel
theorem dX12_plays_86 : decode cX12_plays 86 = .ok (.ifCond .ne 9, 3) := by decide +kernel
theorem dX12_plays_89 : decode cX12_plays 89 = .ok (.iinc 6 (-1), 3) := by decide +kernel
theorem dX12_plays_92 : decode cX12_plays 92 = .ok (.goto (-23), 3) := by decide +kernel
theorem dX12_plays_95 : decode cX12_plays 95 = .ok (.aload_n 0, 1) := by decide +kernel
theorem dX12_plays_96 : decode cX12_plays 96 = .ok (.invokevirtual 307, 3) := by decide +kernel
theorem dX12_plays_99 : decode cX12_plays 99 = .ok (.ifCond .ne 38, 3) := by decide +kernel
theorem dX12_plays_102 : decode cX12_plays 102 = .ok (.iload 5, 2) := by decide +kernel
theorem dX12_plays_104 : decode cX12_plays 104 = .ok (.aload_n 0, 1) := by decide +kernel
theorem dX12_plays_105 : decode cX12_plays 105 = .ok (.getfield 286, 3) := by decide +kernel
theorem dX12_plays_108 : decode cX12_plays 108 = .ok (.iload_n 3, 1) := by decide +kernel
theorem dX12_plays_109 : decode cX12_plays 109 = .ok (.if_icmp .ne 21, 3) := by decide +kernel
theorem dX12_plays_112 : decode cX12_plays 112 = .ok (.aload_n 0, 1) := by decide +kernel
theorem dX12_plays_113 : decode cX12_plays 113 = .ok (.getfield 45, 3) := by decide +kernel
theorem dX12_plays_116 : decode cX12_plays 116 = .ok (.bipush 9, 2) := by decide +kernel
theorem dX12_plays_118 : decode cX12_plays 118 = .ok (.iaload, 1) := by decide +kernel
theorem dX12_plays_119 : decode cX12_plays 119 = .ok (.iload 4, 2) := by decide +kernel
theorem dX12_plays_121 : decode cX12_plays 121 = .ok (.isub, 1) := by decide +kernel
theorem dX12_plays_122 : decode cX12_plays 122 = .ok (.iload_n 2, 1) := by decide +kernel
theorem dX12_plays_123 : decode cX12_plays 123 = .ok (.if_icmp .ne 7, 3) := by decide +kernel
theorem dX12_plays_126 : decode cX12_plays 126 = .ok (.iconst 1, 1) := by decide +kernel
theorem dX12_plays_127 : decode cX12_plays 127 = .ok (.goto 4, 3) := by decide +kernel
theorem dX12_plays_130 : decode cX12_plays 130 = .ok (.iconst 0, 1) := by decide +kernel
theorem dX12_plays_131 : decode cX12_plays 131 = .ok (.iadd, 1) := by decide +kernel
theorem dX12_plays_132 : decode cX12_plays 132 = .ok (.istore 5, 2) := by decide +kernel
theorem dX12_plays_134 : decode cX12_plays 134 = .ok (.goto (-65), 3) := by decide +kernel
theorem dX12_plays_137 : decode cX12_plays 137 = .ok (.iload 6, 2) := by decide +kernel
theorem dX12_plays_139 : decode cX12_plays 139 = .ok (.iload_n 1, 1) := by decide +kernel
theorem dX12_plays_140 : decode cX12_plays 140 = .ok (.iconst 1, 1) := by decide +kernel
theorem dX12_plays_141 : decode cX12_plays 141 = .ok (.isub, 1) := by decide +kernel
theorem dX12_plays_142 : decode cX12_plays 142 = .ok (.if_icmp .ge (-73), 3) := by decide +kernel
theorem dX12_plays_145 : decode cX12_plays 145 = .ok (.iinc 6 1, 3) := by decide +kernel
theorem dX12_plays_148 : decode cX12_plays 148 = .ok (.aload_n 0, 1) := by decide +kernel
theorem dX12_plays_149 : decode cX12_plays 149 = .ok (.iload 6, 2) := by decide +kernel
theorem dX12_plays_151 : decode cX12_plays 151 = .ok (.invokevirtual 391, 3) := by decide +kernel
theorem dX12_plays_154 : decode cX12_plays 154 = .ok (.goto (-85), 3) := by decide +kernel
theorem dX12_plays_157 : decode cX12_plays 157 = .ok (.aload_n 0, 1) := by decide +kernel
theorem dX12_plays_158 : decode cX12_plays 158 = .ok (.iconst 0, 1) := by decide +kernel
theorem dX12_plays_159 : decode cX12_plays 159 = .ok (.invokevirtual 394, 3) := by decide +kernel
theorem dX12_plays_162 : decode cX12_plays 162 = .ok (.iload 5, 2) := by decide +kernel
theorem dX12_plays_164 : decode cX12_plays 164 = .ok (.ireturn, 1) := by decide +kernel
set_option maxRecDepth 20000 in
theorem ggX12_waits_X12_isCorner : GoodIn wsX12_waits wsX12_isCorner := goodIn_r _ [8, 1, 12, 13, 14, 15, 16, 17, 18, 19, 20, 21, 22, 23, 24, 25, 26, 27, 28, 29, 30, 31, 32, 33, 34, 35, 36, 37, 38, 39, 40, 41, 42, 43, 44, 45, 46, 47, 48] (by decide +kernel) (by decide +kernel)
set_option maxRecDepth 20000 in
theorem gX12_waits_X12_isCorner : GoodIn wsX12_waits (wsV RX12 316 RX12 yX12_isCorner wsX12_isCorner) := goodIn_app (goodIn_of _ (by decide +kernel)) ggX12_waits_X12_isCorner
set_option maxRecDepth 20000 in
theorem ggX12_waits_X12_in : GoodIn wsX12_waits wsX12_in := goodIn_r _ [11] (by decide +kernel) (by decide +kernel)
set_option maxRecDepth 20000 in
theorem gX12_waits_X12_in : GoodIn wsX12_waits (va_wsS RX12 115 yX12_in wsX12_in) := goodIn_app (goodIn_of _ (by decide +kernel)) ggX12_waits_X12_in
theorem dX12_waits_0 : decode cX12_waits 0 = .ok (.iload_n 1, 1) := by decide +kernel
theorem dX12_waits_1 : decode cX12_waits 1 = .ok (.iconst (-1), 1) := by decide +kernel
theorem dX12_waits_2 : decode cX12_waits 2 = .ok (.if_icmp .ne 13, 3) := by decide +kernel
theorem dX12_waits_5 : decode cX12_waits 5 = .ok (.aload_n 0, 1) := by decide +kernel
theorem dX12_waits_6 : decode cX12_waits 6 = .ok (.getfield 45, 3) := by decide +kernel
theorem dX12_waits_9 : decode cX12_waits 9 = .ok (.bipush 10, 2) := by decide +kernel
theorem dX12_waits_11 : decode cX12_waits 11 = .ok (.iconst 0, 1) := by decide +kernel
theorem dX12_waits_12 : decode cX12_waits 12 = .ok (.iastore, 1) := by decide +kernel
theorem dX12_waits_13 : decode cX12_waits 13 = .ok (.iconst 0, 1) := by decide +kernel
theorem dX12_waits_14 : decode cX12_waits 14 = .ok (.ireturn, 1) := by decide +kernel
theorem dX12_waits_15 : decode cX12_waits 15 = .ok (.aload_n 0, 1) := by decide +kernel
theorem dX12_waits_16 : decode cX12_waits 16 = .ok (.invokevirtual 316, 3) := by decide +kernel
theorem dX12_waits_19 : decode cX12_waits 19 = .ok (.ifCond .eq 39, 3) := by decide +kernel
theorem dX12_waits_22 : decode cX12_waits 22 = .ok (.iload_n 1, 1) := by decide +kernel
theorem dX12_waits_23 : decode cX12_waits 23 = .ok (.i2l, 1) := by decide +kernel
theorem dX12_waits_24 : decode cX12_waits 24 = .ok (.lconst 1, 1) := by decide +kernel
theorem dX12_waits_25 : decode cX12_waits 25 = .ok (.ldc2_w 400, 3) := by decide +kernel
theorem dX12_waits_28 : decode cX12_waits 28 = .ok (.invokestatic 115, 3) := by decide +kernel
theorem dX12_waits_31 : decode cX12_waits 31 = .ok (.ifCond .eq 27, 3) := by decide +kernel
theorem dX12_waits_34 : decode cX12_waits 34 = .ok (.iload_n 2, 1) := by decide +kernel
theorem dX12_waits_35 : decode cX12_waits 35 = .ok (.i2l, 1) := by decide +kernel
theorem dX12_waits_36 : decode cX12_waits 36 = .ok (.lconst 0, 1) := by decide +kernel
theorem dX12_waits_37 : decode cX12_waits 37 = .ok (.ldc2_w 402, 3) := by decide +kernel
theorem dX12_waits_40 : decode cX12_waits 40 = .ok (.invokestatic 115, 3) := by decide +kernel
theorem dX12_waits_43 : decode cX12_waits 43 = .ok (.ifCond .eq 15, 3) := by decide +kernel
theorem dX12_waits_46 : decode cX12_waits 46 = .ok (.aload_n 0, 1) := by decide +kernel
theorem dX12_waits_47 : decode cX12_waits 47 = .ok (.getfield 45, 3) := by decide +kernel
theorem dX12_waits_50 : decode cX12_waits 50 = .ok (.bipush 10, 2) := by decide +kernel
theorem dX12_waits_52 : decode cX12_waits 52 = .ok (.iaload, 1) := by decide +kernel
theorem dX12_waits_53 : decode cX12_waits 53 = .ok (.bipush 6, 2) := by decide +kernel
theorem dX12_waits_55 : decode cX12_waits 55 = .ok (.if_icmp .ne 6, 3) := by decide +kernel
theorem dX12_waits_58 : decode cX12_waits 58 = .ok (.bipush (-2), 2) := by decide +kernel
theorem dX12_waits_60 : decode cX12_waits 60 = .ok (.ireturn, 1) := by decide +kernel
theorem dX12_waits_61 : decode cX12_waits 61 = .ok (.aload_n 0, 1) := by decide +kernel
theorem dX12_waits_62 : decode cX12_waits 62 = .ok (.getfield 45, 3) := by decide +kernel
theorem dX12_waits_65 : decode cX12_waits 65 = .ok (.bipush 32, 2) := by decide +kernel
theorem dX12_waits_67 : decode cX12_waits 67 = .ok (.iconst 2, 1) := by decide +kernel
theorem dX12_waits_68 : decode cX12_waits 68 = .ok (.aload_n 0, 1) := by decide +kernel
theorem dX12_waits_69 : decode cX12_waits 69 = .ok (.getfield 45, 3) := by decide +kernel
theorem dX12_waits_72 : decode cX12_waits 72 = .ok (.bipush 10, 2) := by decide +kernel
theorem dX12_waits_74 : decode cX12_waits 74 = .ok (.iaload, 1) := by decide +kernel
theorem dX12_waits_75 : decode cX12_waits 75 = .ok (.imul, 1) := by decide +kernel
theorem dX12_waits_76 : decode cX12_waits 76 = .ok (.iadd, 1) := by decide +kernel
theorem dX12_waits_77 : decode cX12_waits 77 = .ok (.iload_n 1, 1) := by decide +kernel
theorem dX12_waits_78 : decode cX12_waits 78 = .ok (.iastore, 1) := by decide +kernel
theorem dX12_waits_79 : decode cX12_waits 79 = .ok (.aload_n 0, 1) := by decide +kernel
theorem dX12_waits_80 : decode cX12_waits 80 = .ok (.getfield 45, 3) := by decide +kernel
theorem dX12_waits_83 : decode cX12_waits 83 = .ok (.bipush 32, 2) := by decide +kernel
theorem dX12_waits_85 : decode cX12_waits 85 = .ok (.iconst 2, 1) := by decide +kernel
theorem dX12_waits_86 : decode cX12_waits 86 = .ok (.aload_n 0, 1) := by decide +kernel
theorem dX12_waits_87 : decode cX12_waits 87 = .ok (.getfield 45, 3) := by decide +kernel
theorem dX12_waits_90 : decode cX12_waits 90 = .ok (.bipush 10, 2) := by decide +kernel
theorem dX12_waits_92 : decode cX12_waits 92 = .ok (.iaload, 1) := by decide +kernel
theorem dX12_waits_93 : decode cX12_waits 93 = .ok (.imul, 1) := by decide +kernel
theorem dX12_waits_94 : decode cX12_waits 94 = .ok (.iadd, 1) := by decide +kernel
theorem dX12_waits_95 : decode cX12_waits 95 = .ok (.iconst 1, 1) := by decide +kernel
theorem dX12_waits_96 : decode cX12_waits 96 = .ok (.iadd, 1) := by decide +kernel
theorem dX12_waits_97 : decode cX12_waits 97 = .ok (.iload_n 2, 1) := by decide +kernel
theorem dX12_waits_98 : decode cX12_waits 98 = .ok (.iastore, 1) := by decide +kernel
theorem dX12_waits_99 : decode cX12_waits 99 = .ok (.aload_n 0, 1) := by decide +kernel
theorem dX12_waits_100 : decode cX12_waits 100 = .ok (.getfield 45, 3) := by decide +kernel
theorem dX12_waits_103 : decode cX12_waits 103 = .ok (.bipush 10, 2) := by decide +kernel
theorem dX12_waits_105 : decode cX12_waits 105 = .ok (.dup2, 1) := by decide +kernel
theorem dX12_waits_106 : decode cX12_waits 106 = .ok (.iaload, 1) := by decide +kernel
theorem dX12_waits_107 : decode cX12_waits 107 = .ok (.iconst 1, 1) := by decide +kernel
theorem dX12_waits_108 : decode cX12_waits 108 = .ok (.iadd, 1) := by decide +kernel
theorem dX12_waits_109 : decode cX12_waits 109 = .ok (.iastore, 1) := by decide +kernel
theorem dX12_waits_110 : decode cX12_waits 110 = .ok (.aload_n 0, 1) := by decide +kernel
theorem dX12_waits_111 : decode cX12_waits 111 = .ok (.getfield 45, 3) := by decide +kernel
theorem dX12_waits_114 : decode cX12_waits 114 = .ok (.bipush 10, 2) := by decide +kernel
theorem dX12_waits_116 : decode cX12_waits 116 = .ok (.iaload, 1) := by decide +kernel
theorem dX12_waits_117 : decode cX12_waits 117 = .ok (.ireturn, 1) := by decide +kernel
theorem dX12_isRow_0 : decode cX12_isRow 0 = .ok (.iload_n 1, 1) := by decide +kernel
theorem dX12_isRow_1 : decode cX12_isRow 1 = .ok (.istore_n 3, 1) := by decide +kernel
theorem dX12_isRow_2 : decode cX12_isRow 2 = .ok (.iconst 0, 1) := by decide +kernel
theorem dX12_isRow_3 : decode cX12_isRow 3 = .ok (.istore 4, 2) := by decide +kernel
theorem dX12_isRow_5 : decode cX12_isRow 5 = .ok (.iload_n 2, 1) := by decide +kernel
theorem dX12_isRow_6 : decode cX12_isRow 6 = .ok (.iconst 1, 1) := by decide +kernel
theorem dX12_isRow_7 : decode cX12_isRow 7 = .ok (.isub, 1) := by decide +kernel
theorem dX12_isRow_8 : decode cX12_isRow 8 = .ok (.istore 5, 2) := by decide +kernel
theorem dX12_isRow_10 : decode cX12_isRow 10 = .ok (.iload 5, 2) := by decide +kernel
theorem dX12_isRow_12 : decode cX12_isRow 12 = .ok (.ifCond .lt 37, 3) := by decide +kernel
theorem dX12_isRow_15 : decode cX12_isRow 15 = .ok (.aload_n 0, 1) := by decide +kernel
theorem dX12_isRow_16 : decode cX12_isRow 16 = .ok (.getfield 60, 3) := by decide +kernel
theorem dX12_isRow_19 : decode cX12_isRow 19 = .ok (.iload 5, 2) := by decide +kernel
theorem dX12_isRow_21 : decode cX12_isRow 21 = .ok (.iload_n 3, 1) := by decide +kernel
theorem dX12_isRow_22 : decode cX12_isRow 22 = .ok (.iload_n 2, 1) := by decide +kernel
theorem dX12_isRow_23 : decode cX12_isRow 23 = .ok (.irem, 1) := by decide +kernel
theorem dX12_isRow_24 : decode cX12_isRow 24 = .ok (.iastore, 1) := by decide +kernel
theorem dX12_isRow_25 : decode cX12_isRow 25 = .ok (.iload_n 3, 1) := by decide +kernel
theorem dX12_isRow_26 : decode cX12_isRow 26 = .ok (.iload_n 2, 1) := by decide +kernel
theorem dX12_isRow_27 : decode cX12_isRow 27 = .ok (.idiv, 1) := by decide +kernel
theorem dX12_isRow_28 : decode cX12_isRow 28 = .ok (.istore_n 3, 1) := by decide +kernel
theorem dX12_isRow_29 : decode cX12_isRow 29 = .ok (.iload 4, 2) := by decide +kernel
theorem dX12_isRow_31 : decode cX12_isRow 31 = .ok (.iconst 1, 1) := by decide +kernel
theorem dX12_isRow_32 : decode cX12_isRow 32 = .ok (.aload_n 0, 1) := by decide +kernel
theorem dX12_isRow_33 : decode cX12_isRow 33 = .ok (.getfield 60, 3) := by decide +kernel
theorem dX12_isRow_36 : decode cX12_isRow 36 = .ok (.iload 5, 2) := by decide +kernel
theorem dX12_isRow_38 : decode cX12_isRow 38 = .ok (.iaload, 1) := by decide +kernel
theorem dX12_isRow_39 : decode cX12_isRow 39 = .ok (.ishl, 1) := by decide +kernel
theorem dX12_isRow_40 : decode cX12_isRow 40 = .ok (.ior, 1) := by decide +kernel
theorem dX12_isRow_41 : decode cX12_isRow 41 = .ok (.istore 4, 2) := by decide +kernel
theorem dX12_isRow_43 : decode cX12_isRow 43 = .ok (.iinc 5 (-1), 3) := by decide +kernel
theorem dX12_isRow_46 : decode cX12_isRow 46 = .ok (.goto (-36), 3) := by decide +kernel
theorem dX12_isRow_49 : decode cX12_isRow 49 = .ok (.iload 4, 2) := by decide +kernel
theorem dX12_isRow_51 : decode cX12_isRow 51 = .ok (.iconst 1, 1) := by decide +kernel
theorem dX12_isRow_52 : decode cX12_isRow 52 = .ok (.iload_n 2, 1) := by decide +kernel
theorem dX12_isRow_53 : decode cX12_isRow 53 = .ok (.ishl, 1) := by decide +kernel
theorem dX12_isRow_54 : decode cX12_isRow 54 = .ok (.iconst 1, 1) := by decide +kernel
theorem dX12_isRow_55 : decode cX12_isRow 55 = .ok (.isub, 1) := by decide +kernel
theorem dX12_isRow_56 : decode cX12_isRow 56 = .ok (.if_icmp .ne 7, 3) := by decide +kernel
theorem dX12_isRow_59 : decode cX12_isRow 59 = .ok (.iconst 1, 1) := by decide +kernel
theorem dX12_isRow_60 : decode cX12_isRow 60 = .ok (.goto 4, 3) := by decide +kernel
theorem dX12_isRow_63 : decode cX12_isRow 63 = .ok (.iconst 0, 1) := by decide +kernel
theorem dX12_isRow_64 : decode cX12_isRow 64 = .ok (.ireturn, 1) := by decide +kernel
set_option maxRecDepth 20000 in
theorem ggX12_order_X12_in : GoodIn wsX12_order wsX12_in := goodIn_r _ [8] (by decide +kernel) (by decide +kernel)
set_option maxRecDepth 20000 in
theorem gX12_order_X12_in : GoodIn wsX12_order (va_wsS RX12 115 yX12_in wsX12_in) := goodIn_app (goodIn_of _ (by decide +kernel)) ggX12_order_X12_in
set_option maxRecDepth 20000 in
theorem ggX12_order_X12_isRow : GoodIn wsX12_order wsX12_isRow := goodIn_r _ [12, 3, 13, 14, 15, 16, 17, 18, 19, 20, 21, 22, 23, 24, 25, 26, 27, 28, 29, 30, 31, 32, 33, 34, 35, 36, 37, 38, 39, 40, 41, 42, 43, 44, 45, 46, 47, 48, 49] (by decide +kernel) (by decide +kernel)
set_option maxRecDepth 20000 in
theorem gX12_order_X12_isRow : GoodIn wsX12_order (wsV RX12 406 RX12 yX12_isRow wsX12_isRow) := goodIn_app (goodIn_of _ (by decide +kernel)) ggX12_order_X12_isRow
theorem dX12_order_0 : decode cX12_order 0 = .ok (.iload_n 1, 1) := by decide +kernel
theorem dX12_order_1 : decode cX12_order 1 = .ok (.i2l, 1) := by decide +kernel
theorem dX12_order_2 : decode cX12_order 2 = .ok (.lconst 0, 1) := by decide +kernel
theorem dX12_order_3 : decode cX12_order 3 = .ok (.ldc2_w 404, 3) := by decide +kernel
theorem dX12_order_6 : decode cX12_order 6 = .ok (.invokestatic 115, 3) := by decide +kernel
theorem dX12_order_9 : decode cX12_order 9 = .ok (.ifCond .ne 5, 3) := by decide +kernel
theorem dX12_order_12 : decode cX12_order 12 = .ok (.iconst (-1), 1) := by decide +kernel
theorem dX12_order_13 : decode cX12_order 13 = .ok (.ireturn, 1) := by decide +kernel
theorem dX12_order_14 : decode cX12_order 14 = .ok (.aload_n 0, 1) := by decide +kernel
theorem dX12_order_15 : decode cX12_order 15 = .ok (.getfield 45, 3) := by decide +kernel
theorem dX12_order_18 : decode cX12_order 18 = .ok (.bipush 10, 2) := by decide +kernel
theorem dX12_order_20 : decode cX12_order 20 = .ok (.iaload, 1) := by decide +kernel
theorem dX12_order_21 : decode cX12_order 21 = .ok (.istore_n 2, 1) := by decide +kernel
theorem dX12_order_22 : decode cX12_order 22 = .ok (.iconst 1, 1) := by decide +kernel
theorem dX12_order_23 : decode cX12_order 23 = .ok (.istore_n 3, 1) := by decide +kernel
theorem dX12_order_24 : decode cX12_order 24 = .ok (.iconst 0, 1) := by decide +kernel
theorem dX12_order_25 : decode cX12_order 25 = .ok (.istore 4, 2) := by decide +kernel
theorem dX12_order_27 : decode cX12_order 27 = .ok (.iload 4, 2) := by decide +kernel
theorem dX12_order_29 : decode cX12_order 29 = .ok (.iload_n 2, 1) := by decide +kernel
theorem dX12_order_30 : decode cX12_order 30 = .ok (.if_icmp .ge 13, 3) := by decide +kernel
theorem dX12_order_33 : decode cX12_order 33 = .ok (.iload_n 3, 1) := by decide +kernel
theorem dX12_order_34 : decode cX12_order 34 = .ok (.iload_n 2, 1) := by decide +kernel
theorem dX12_order_35 : decode cX12_order 35 = .ok (.imul, 1) := by decide +kernel
theorem dX12_order_36 : decode cX12_order 36 = .ok (.istore_n 3, 1) := by decide +kernel
theorem dX12_order_37 : decode cX12_order 37 = .ok (.iinc 4 1, 3) := by decide +kernel
theorem dX12_order_40 : decode cX12_order 40 = .ok (.goto (-13), 3) := by decide +kernel
theorem dX12_order_43 : decode cX12_order 43 = .ok (.iconst (-1), 1) := by decide +kernel
theorem dX12_order_44 : decode cX12_order 44 = .ok (.istore 4, 2) := by decide +kernel
theorem dX12_order_46 : decode cX12_order 46 = .ok (.iconst 0, 1) := by decide +kernel
theorem dX12_order_47 : decode cX12_order 47 = .ok (.istore 5, 2) := by decide +kernel
theorem dX12_order_49 : decode cX12_order 49 = .ok (.iload 5, 2) := by decide +kernel
theorem dX12_order_51 : decode cX12_order 51 = .ok (.iload_n 3, 1) := by decide +kernel
theorem dX12_order_52 : decode cX12_order 52 = .ok (.if_icmp .ge 140, 3) := by decide +kernel
theorem dX12_order_55 : decode cX12_order 55 = .ok (.aload_n 0, 1) := by decide +kernel
theorem dX12_order_56 : decode cX12_order 56 = .ok (.iload 5, 2) := by decide +kernel
theorem dX12_order_58 : decode cX12_order 58 = .ok (.iload_n 2, 1) := by decide +kernel
theorem dX12_order_59 : decode cX12_order 59 = .ok (.invokevirtual 406, 3) := by decide +kernel
theorem dX12_order_62 : decode cX12_order 62 = .ok (.ifCond .ne 6, 3) := by decide +kernel
theorem dX12_order_65 : decode cX12_order 65 = .ok (.goto 121, 3) := by decide +kernel
theorem dX12_order_68 : decode cX12_order 68 = .ok (.iconst 0, 1) := by decide +kernel
theorem dX12_order_69 : decode cX12_order 69 = .ok (.istore 6, 2) := by decide +kernel
theorem dX12_order_71 : decode cX12_order 71 = .ok (.iconst 0, 1) := by decide +kernel
theorem dX12_order_72 : decode cX12_order 72 = .ok (.istore 7, 2) := by decide +kernel
theorem dX12_order_74 : decode cX12_order 74 = .ok (.iconst 0, 1) := by decide +kernel
theorem dX12_order_75 : decode cX12_order 75 = .ok (.istore 8, 2) := by decide +kernel
theorem dX12_order_77 : decode cX12_order 77 = .ok (.iload 8, 2) := by decide +kernel
theorem dX12_order_79 : decode cX12_order 79 = .ok (.iload_n 2, 1) := by decide +kernel
theorem dX12_order_80 : decode cX12_order 80 = .ok (.if_icmp .ge 58, 3) := by decide +kernel
theorem dX12_order_83 : decode cX12_order 83 = .ok (.iload 6, 2) := by decide +kernel
theorem dX12_order_85 : decode cX12_order 85 = .ok (.aload_n 0, 1) := by decide +kernel
theorem dX12_order_86 : decode cX12_order 86 = .ok (.getfield 45, 3) := by decide +kernel
theorem dX12_order_89 : decode cX12_order 89 = .ok (.bipush 32, 2) := by decide +kernel
theorem dX12_order_91 : decode cX12_order 91 = .ok (.iconst 2, 1) := by decide +kernel
theorem dX12_order_92 : decode cX12_order 92 = .ok (.aload_n 0, 1) := by decide +kernel
theorem dX12_order_93 : decode cX12_order 93 = .ok (.getfield 60, 3) := by decide +kernel
theorem dX12_order_96 : decode cX12_order 96 = .ok (.iload 8, 2) := by decide +kernel
theorem dX12_order_98 : decode cX12_order 98 = .ok (.iaload, 1) := by decide +kernel
theorem dX12_order_99 : decode cX12_order 99 = .ok (.imul, 1) := by decide +kernel
theorem dX12_order_100 : decode cX12_order 100 = .ok (.iadd, 1) := by decide +kernel
theorem dX12_order_101 : decode cX12_order 101 = .ok (.iaload, 1) := by decide +kernel
theorem dX12_order_102 : decode cX12_order 102 = .ok (.iadd, 1) := by decide +kernel
theorem dX12_order_103 : decode cX12_order 103 = .ok (.istore 6, 2) := by decide +kernel
theorem dX12_order_105 : decode cX12_order 105 = .ok (.iload 7, 2) := by decide +kernel
theorem dX12_order_107 : decode cX12_order 107 = .ok (.iload 6, 2) := by decide +kernel
theorem dX12_order_109 : decode cX12_order 109 = .ok (.aload_n 0, 1) := by decide +kernel
theorem dX12_order_110 : decode cX12_order 110 = .ok (.getfield 45, 3) := by decide +kernel
theorem dX12_order_113 : decode cX12_order 113 = .ok (.bipush 32, 2) := by decide +kernel
theorem dX12_order_115 : decode cX12_order 115 = .ok (.iconst 2, 1) := by decide +kernel
theorem dX12_order_116 : decode cX12_order 116 = .ok (.aload_n 0, 1) := by decide +kernel
theorem dX12_order_117 : decode cX12_order 117 = .ok (.getfield 60, 3) := by decide +kernel
theorem dX12_order_120 : decode cX12_order 120 = .ok (.iload 8, 2) := by decide +kernel
theorem dX12_order_122 : decode cX12_order 122 = .ok (.iaload, 1) := by decide +kernel
theorem dX12_order_123 : decode cX12_order 123 = .ok (.imul, 1) := by decide +kernel
theorem dX12_order_124 : decode cX12_order 124 = .ok (.iadd, 1) := by decide +kernel
theorem dX12_order_125 : decode cX12_order 125 = .ok (.iconst 1, 1) := by decide +kernel
theorem dX12_order_126 : decode cX12_order 126 = .ok (.iadd, 1) := by decide +kernel
theorem dX12_order_127 : decode cX12_order 127 = .ok (.iaload, 1) := by decide +kernel
theorem dX12_order_128 : decode cX12_order 128 = .ok (.imul, 1) := by decide +kernel
theorem dX12_order_129 : decode cX12_order 129 = .ok (.iadd, 1) := by decide +kernel
theorem dX12_order_130 : decode cX12_order 130 = .ok (.istore 7, 2) := by decide +kernel
theorem dX12_order_132 : decode cX12_order 132 = .ok (.iinc 8 1, 3) := by decide +kernel
theorem dX12_order_135 : decode cX12_order 135 = .ok (.goto (-58), 3) := by decide +kernel
theorem dX12_order_138 : decode cX12_order 138 = .ok (.iload 4, 2) := by decide +kernel
theorem dX12_order_140 : decode cX12_order 140 = .ok (.ifCond .lt 13, 3) := by decide +kernel
theorem dX12_order_143 : decode cX12_order 143 = .ok (.iload 7, 2) := by decide +kernel
theorem dX12_order_145 : decode cX12_order 145 = .ok (.iload 4, 2) := by decide +kernel
theorem dX12_order_147 : decode cX12_order 147 = .ok (.if_icmp .lt 6, 3) := by decide +kernel
theorem dX12_order_150 : decode cX12_order 150 = .ok (.goto 36, 3) := by decide +kernel
theorem dX12_order_153 : decode cX12_order 153 = .ok (.iload 7, 2) := by decide +kernel
theorem dX12_order_155 : decode cX12_order 155 = .ok (.istore 4, 2) := by decide +kernel
theorem dX12_order_157 : decode cX12_order 157 = .ok (.iconst 0, 1) := by decide +kernel
theorem dX12_order_158 : decode cX12_order 158 = .ok (.istore 8, 2) := by decide +kernel
theorem dX12_order_160 : decode cX12_order 160 = .ok (.iload 8, 2) := by decide +kernel
theorem dX12_order_162 : decode cX12_order 162 = .ok (.iload_n 2, 1) := by decide +kernel
theorem dX12_order_163 : decode cX12_order 163 = .ok (.if_icmp .ge 23, 3) := by decide +kernel
theorem dX12_order_166 : decode cX12_order 166 = .ok (.aload_n 0, 1) := by decide +kernel
theorem dX12_order_167 : decode cX12_order 167 = .ok (.getfield 63, 3) := by decide +kernel
theorem dX12_order_170 : decode cX12_order 170 = .ok (.iload 8, 2) := by decide +kernel
theorem dX12_order_172 : decode cX12_order 172 = .ok (.aload_n 0, 1) := by decide +kernel
theorem dX12_order_173 : decode cX12_order 173 = .ok (.getfield 60, 3) := by decide +kernel
theorem dX12_order_176 : decode cX12_order 176 = .ok (.iload 8, 2) := by decide +kernel
theorem dX12_order_178 : decode cX12_order 178 = .ok (.iaload, 1) := by decide +kernel
theorem dX12_order_179 : decode cX12_order 179 = .ok (.iastore, 1) := by decide +kernel
theorem dX12_order_180 : decode cX12_order 180 = .ok (.iinc 8 1, 3) := by decide +kernel
theorem dX12_order_183 : decode cX12_order 183 = .ok (.goto (-23), 3) := by decide +kernel
theorem dX12_order_186 : decode cX12_order 186 = .ok (.iinc 5 1, 3) := by decide +kernel
theorem dX12_order_189 : decode cX12_order 189 = .ok (.goto (-140), 3) := by decide +kernel
theorem dX12_order_192 : decode cX12_order 192 = .ok (.iload_n 1, 1) := by decide +kernel
theorem dX12_order_193 : decode cX12_order 193 = .ok (.ifCond .ne 8, 3) := by decide +kernel
theorem dX12_order_196 : decode cX12_order 196 = .ok (.iload 4, 2) := by decide +kernel
theorem dX12_order_198 : decode cX12_order 198 = .ok (.goto 21, 3) := by decide +kernel
theorem dX12_order_201 : decode cX12_order 201 = .ok (.iload_n 1, 1) := by decide +kernel
theorem dX12_order_202 : decode cX12_order 202 = .ok (.iload_n 2, 1) := by decide +kernel
theorem dX12_order_203 : decode cX12_order 203 = .ok (.if_icmp .gt 14, 3) := by decide +kernel
theorem dX12_order_206 : decode cX12_order 206 = .ok (.aload_n 0, 1) := by decide +kernel
theorem dX12_order_207 : decode cX12_order 207 = .ok (.getfield 63, 3) := by decide +kernel
theorem dX12_order_210 : decode cX12_order 210 = .ok (.iload_n 1, 1) := by decide +kernel
theorem dX12_order_211 : decode cX12_order 211 = .ok (.iconst 1, 1) := by decide +kernel
theorem dX12_order_212 : decode cX12_order 212 = .ok (.isub, 1) := by decide +kernel
theorem dX12_order_213 : decode cX12_order 213 = .ok (.iaload, 1) := by decide +kernel
theorem dX12_order_214 : decode cX12_order 214 = .ok (.goto 5, 3) := by decide +kernel
theorem dX12_order_217 : decode cX12_order 217 = .ok (.bipush (-2), 2) := by decide +kernel
theorem dX12_order_219 : decode cX12_order 219 = .ok (.ireturn, 1) := by decide +kernel
theorem dX12_seed_0 : decode cX12_seed 0 = .ok (.iload_n 1, 1) := by decide +kernel
theorem dX12_seed_1 : decode cX12_seed 1 = .ok (.ifCond .ge 5, 3) := by decide +kernel
theorem dX12_seed_4 : decode cX12_seed 4 = .ok (.iconst (-1), 1) := by decide +kernel
theorem dX12_seed_5 : decode cX12_seed 5 = .ok (.ireturn, 1) := by decide +kernel
theorem dX12_seed_6 : decode cX12_seed 6 = .ok (.aload_n 0, 1) := by decide +kernel
theorem dX12_seed_7 : decode cX12_seed 7 = .ok (.getfield 45, 3) := by decide +kernel
theorem dX12_seed_10 : decode cX12_seed 10 = .ok (.bipush 11, 2) := by decide +kernel
theorem dX12_seed_12 : decode cX12_seed 12 = .ok (.iaload, 1) := by decide +kernel
theorem dX12_seed_13 : decode cX12_seed 13 = .ok (.istore_n 2, 1) := by decide +kernel
theorem dX12_seed_14 : decode cX12_seed 14 = .ok (.aload_n 0, 1) := by decide +kernel
theorem dX12_seed_15 : decode cX12_seed 15 = .ok (.getfield 45, 3) := by decide +kernel
theorem dX12_seed_18 : decode cX12_seed 18 = .ok (.bipush 11, 2) := by decide +kernel
theorem dX12_seed_20 : decode cX12_seed 20 = .ok (.iload_n 1, 1) := by decide +kernel
theorem dX12_seed_21 : decode cX12_seed 21 = .ok (.iastore, 1) := by decide +kernel
theorem dX12_seed_22 : decode cX12_seed 22 = .ok (.iload_n 2, 1) := by decide +kernel
theorem dX12_seed_23 : decode cX12_seed 23 = .ok (.ireturn, 1) := by decide +kernel
theorem dX12_draw_0 : decode cX12_draw 0 = .ok (.aload_n 0, 1) := by decide +kernel
theorem dX12_draw_1 : decode cX12_draw 1 = .ok (.aload_n 0, 1) := by decide +kernel
theorem dX12_draw_2 : decode cX12_draw 2 = .ok (.getfield 409, 3) := by decide +kernel
theorem dX12_draw_5 : decode cX12_draw 5 = .ok (.ldc2_w 413, 3) := by decide +kernel
theorem dX12_draw_8 : decode cX12_draw 8 = .ok (.lmul, 1) := by decide +kernel
theorem dX12_draw_9 : decode cX12_draw 9 = .ok (.ldc2_w 415, 3) := by decide +kernel
theorem dX12_draw_12 : decode cX12_draw 12 = .ok (.ladd, 1) := by decide +kernel
theorem dX12_draw_13 : decode cX12_draw 13 = .ok (.ldc2_w 417, 3) := by decide +kernel
theorem dX12_draw_16 : decode cX12_draw 16 = .ok (.lrem, 1) := by decide +kernel
theorem dX12_draw_17 : decode cX12_draw 17 = .ok (.putfield 409, 3) := by decide +kernel
theorem dX12_draw_20 : decode cX12_draw 20 = .ok (.aload_n 0, 1) := by decide +kernel
theorem dX12_draw_21 : decode cX12_draw 21 = .ok (.getfield 409, 3) := by decide +kernel
theorem dX12_draw_24 : decode cX12_draw 24 = .ok (.ldc2_w 419, 3) := by decide +kernel
theorem dX12_draw_27 : decode cX12_draw 27 = .ok (.ldiv, 1) := by decide +kernel
theorem dX12_draw_28 : decode cX12_draw 28 = .ok (.iload_n 1, 1) := by decide +kernel
theorem dX12_draw_29 : decode cX12_draw 29 = .ok (.i2l, 1) := by decide +kernel
theorem dX12_draw_30 : decode cX12_draw 30 = .ok (.lrem, 1) := by decide +kernel
theorem dX12_draw_31 : decode cX12_draw 31 = .ok (.l2i, 1) := by decide +kernel
theorem dX12_draw_32 : decode cX12_draw 32 = .ok (.ireturn, 1) := by decide +kernel
set_option maxRecDepth 20000 in
theorem ggX12_fillsFirsts_X12_verseOf : GoodIn wsX12_fillsFirsts wsX12_verseOf := goodIn_r _ [7, 2, 36, 37, 38, 39, 40, 41, 42, 43, 44, 45, 46, 47, 48, 49, 50, 51, 52, 53, 54, 55, 56, 57, 58, 59, 60, 61, 62, 63, 64, 65, 66, 67, 68, 69, 70, 71, 72] (by decide +kernel) (by decide +kernel)
set_option maxRecDepth 20000 in
theorem gX12_fillsFirsts_X12_verseOf : GoodIn wsX12_fillsFirsts (wsV RX12 301 RX12 yX12_verseOf wsX12_verseOf) := goodIn_app (goodIn_of _ (by decide +kernel)) ggX12_fillsFirsts_X12_verseOf
set_option maxRecDepth 20000 in
theorem ggX12_fillsFirsts_X12_fillsTable : GoodIn wsX12_fillsFirsts wsX12_fillsTable := goodIn_r _ [11, 12, 13, 14, 6, 15, 16, 17, 18, 19, 20, 21, 22, 23, 24, 2, 25, 26, 27, 28, 29, 30, 31, 36, 37, 38, 39, 40, 41, 42, 43, 44, 45, 46, 47, 48, 49, 50, 51, 52, 53, 54, 55, 56, 57, 58, 59, 60, 61, 62, 63, 64, 65, 66, 67, 68, 69, 70, 71, 72] (by decide +kernel) (by decide +kernel)
set_option maxRecDepth 20000 in
theorem gX12_fillsFirsts_X12_fillsTable : GoodIn wsX12_fillsFirsts (wsV RX12 368 RX12 yX12_fillsTable wsX12_fillsTable) := goodIn_app (goodIn_of _ (by decide +kernel)) ggX12_fillsFirsts_X12_fillsTable
set_option maxRecDepth 20000 in
theorem ggX12_fillsFirsts_X12_isFirsts : GoodIn wsX12_fillsFirsts wsX12_isFirsts := goodIn_r _ [35, 25, 26, 27, 6, 28, 20, 29, 30, 31, 36, 37, 38, 39, 40, 41, 42, 43, 44, 45, 46, 47, 48, 49, 50, 51, 52, 53, 54, 55, 56, 57, 58, 59, 60, 61, 62, 63, 64, 65, 66, 67, 68, 69, 70, 71, 72] (by decide +kernel) (by decide +kernel)
set_option maxRecDepth 20000 in
theorem gX12_fillsFirsts_X12_isFirsts : GoodIn wsX12_fillsFirsts (wsV RX12 380 RX12 yX12_isFirsts wsX12_isFirsts) := goodIn_app (goodIn_of _ (by decide +kernel)) ggX12_fillsFirsts_X12_isFirsts
theorem dX12_fillsFirsts_0 : decode cX12_fillsFirsts 0 = .ok (.iconst 0, 1) := by decide +kernel
theorem dX12_fillsFirsts_1 : decode cX12_fillsFirsts 1 = .ok (.istore_n 1, 1) := by decide +kernel
theorem dX12_fillsFirsts_2 : decode cX12_fillsFirsts 2 = .ok (.iload_n 1, 1) := by decide +kernel
theorem dX12_fillsFirsts_3 : decode cX12_fillsFirsts 3 = .ok (.bipush 64, 2) := by decide +kernel
theorem dX12_fillsFirsts_5 : decode cX12_fillsFirsts 5 = .ok (.if_icmp .ge 16, 3) := by decide +kernel
theorem dX12_fillsFirsts_8 : decode cX12_fillsFirsts 8 = .ok (.aload_n 0, 1) := by decide +kernel
theorem dX12_fillsFirsts_9 : decode cX12_fillsFirsts 9 = .ok (.getfield 66, 3) := by decide +kernel
theorem dX12_fillsFirsts_12 : decode cX12_fillsFirsts 12 = .ok (.iload_n 1, 1) := by decide +kernel
theorem dX12_fillsFirsts_13 : decode cX12_fillsFirsts 13 = .ok (.iconst 0, 1) := by decide +kernel
theorem dX12_fillsFirsts_14 : decode cX12_fillsFirsts 14 = .ok (.iastore, 1) := by decide +kernel
theorem dX12_fillsFirsts_15 : decode cX12_fillsFirsts 15 = .ok (.iinc 1 1, 3) := by decide +kernel
theorem dX12_fillsFirsts_18 : decode cX12_fillsFirsts 18 = .ok (.goto (-16), 3) := by decide +kernel
theorem dX12_fillsFirsts_21 : decode cX12_fillsFirsts 21 = .ok (.iconst 0, 1) := by decide +kernel
theorem dX12_fillsFirsts_22 : decode cX12_fillsFirsts 22 = .ok (.istore_n 1, 1) := by decide +kernel
theorem dX12_fillsFirsts_23 : decode cX12_fillsFirsts 23 = .ok (.iload_n 1, 1) := by decide +kernel
theorem dX12_fillsFirsts_24 : decode cX12_fillsFirsts 24 = .ok (.aload_n 0, 1) := by decide +kernel
theorem dX12_fillsFirsts_25 : decode cX12_fillsFirsts 25 = .ok (.getfield 45, 3) := by decide +kernel
theorem dX12_fillsFirsts_28 : decode cX12_fillsFirsts 28 = .ok (.iconst 0, 1) := by decide +kernel
theorem dX12_fillsFirsts_29 : decode cX12_fillsFirsts 29 = .ok (.iaload, 1) := by decide +kernel
theorem dX12_fillsFirsts_30 : decode cX12_fillsFirsts 30 = .ok (.if_icmp .ge 81, 3) := by decide +kernel
theorem dX12_fillsFirsts_33 : decode cX12_fillsFirsts 33 = .ok (.aload_n 0, 1) := by decide +kernel
theorem dX12_fillsFirsts_34 : decode cX12_fillsFirsts 34 = .ok (.aload_n 0, 1) := by decide +kernel
theorem dX12_fillsFirsts_35 : decode cX12_fillsFirsts 35 = .ok (.iload_n 1, 1) := by decide +kernel
theorem dX12_fillsFirsts_36 : decode cX12_fillsFirsts 36 = .ok (.invokevirtual 301, 3) := by decide +kernel
theorem dX12_fillsFirsts_39 : decode cX12_fillsFirsts 39 = .ok (.invokevirtual 368, 3) := by decide +kernel
theorem dX12_fillsFirsts_42 : decode cX12_fillsFirsts 42 = .ok (.iconst 0, 1) := by decide +kernel
theorem dX12_fillsFirsts_43 : decode cX12_fillsFirsts 43 = .ok (.istore_n 2, 1) := by decide +kernel
theorem dX12_fillsFirsts_44 : decode cX12_fillsFirsts 44 = .ok (.iload_n 2, 1) := by decide +kernel
theorem dX12_fillsFirsts_45 : decode cX12_fillsFirsts 45 = .ok (.bipush 7, 2) := by decide +kernel
theorem dX12_fillsFirsts_47 : decode cX12_fillsFirsts 47 = .ok (.if_icmp .gt 58, 3) := by decide +kernel
theorem dX12_fillsFirsts_50 : decode cX12_fillsFirsts 50 = .ok (.iconst 0, 1) := by decide +kernel
theorem dX12_fillsFirsts_51 : decode cX12_fillsFirsts 51 = .ok (.istore_n 3, 1) := by decide +kernel
theorem dX12_fillsFirsts_52 : decode cX12_fillsFirsts 52 = .ok (.iload_n 3, 1) := by decide +kernel
theorem dX12_fillsFirsts_53 : decode cX12_fillsFirsts 53 = .ok (.bipush 7, 2) := by decide +kernel
theorem dX12_fillsFirsts_55 : decode cX12_fillsFirsts 55 = .ok (.if_icmp .gt 44, 3) := by decide +kernel
theorem dX12_fillsFirsts_58 : decode cX12_fillsFirsts 58 = .ok (.aload_n 0, 1) := by decide +kernel
theorem dX12_fillsFirsts_59 : decode cX12_fillsFirsts 59 = .ok (.getfield 66, 3) := by decide +kernel
theorem dX12_fillsFirsts_62 : decode cX12_fillsFirsts 62 = .ok (.bipush 8, 2) := by decide +kernel
theorem dX12_fillsFirsts_64 : decode cX12_fillsFirsts 64 = .ok (.iload_n 2, 1) := by decide +kernel
theorem dX12_fillsFirsts_65 : decode cX12_fillsFirsts 65 = .ok (.imul, 1) := by decide +kernel
theorem dX12_fillsFirsts_66 : decode cX12_fillsFirsts 66 = .ok (.iload_n 3, 1) := by decide +kernel
theorem dX12_fillsFirsts_67 : decode cX12_fillsFirsts 67 = .ok (.iadd, 1) := by decide +kernel
theorem dX12_fillsFirsts_68 : decode cX12_fillsFirsts 68 = .ok (.dup2, 1) := by decide +kernel
theorem dX12_fillsFirsts_69 : decode cX12_fillsFirsts 69 = .ok (.iaload, 1) := by decide +kernel
theorem dX12_fillsFirsts_70 : decode cX12_fillsFirsts 70 = .ok (.aload_n 0, 1) := by decide +kernel
theorem dX12_fillsFirsts_71 : decode cX12_fillsFirsts 71 = .ok (.aload_n 0, 1) := by decide +kernel
theorem dX12_fillsFirsts_72 : decode cX12_fillsFirsts 72 = .ok (.iload_n 1, 1) := by decide +kernel
theorem dX12_fillsFirsts_73 : decode cX12_fillsFirsts 73 = .ok (.invokevirtual 301, 3) := by decide +kernel
theorem dX12_fillsFirsts_76 : decode cX12_fillsFirsts 76 = .ok (.iload_n 2, 1) := by decide +kernel
theorem dX12_fillsFirsts_77 : decode cX12_fillsFirsts 77 = .ok (.iload_n 3, 1) := by decide +kernel
theorem dX12_fillsFirsts_78 : decode cX12_fillsFirsts 78 = .ok (.invokevirtual 380, 3) := by decide +kernel
theorem dX12_fillsFirsts_81 : decode cX12_fillsFirsts 81 = .ok (.ifCond .eq 9, 3) := by decide +kernel
theorem dX12_fillsFirsts_84 : decode cX12_fillsFirsts 84 = .ok (.iconst 1, 1) := by decide +kernel
theorem dX12_fillsFirsts_85 : decode cX12_fillsFirsts 85 = .ok (.iload_n 1, 1) := by decide +kernel
theorem dX12_fillsFirsts_86 : decode cX12_fillsFirsts 86 = .ok (.ishl, 1) := by decide +kernel
theorem dX12_fillsFirsts_87 : decode cX12_fillsFirsts 87 = .ok (.goto 4, 3) := by decide +kernel
theorem dX12_fillsFirsts_90 : decode cX12_fillsFirsts 90 = .ok (.iconst 0, 1) := by decide +kernel
theorem dX12_fillsFirsts_91 : decode cX12_fillsFirsts 91 = .ok (.ior, 1) := by decide +kernel
theorem dX12_fillsFirsts_92 : decode cX12_fillsFirsts 92 = .ok (.iastore, 1) := by decide +kernel
theorem dX12_fillsFirsts_93 : decode cX12_fillsFirsts 93 = .ok (.iinc 3 1, 3) := by decide +kernel
theorem dX12_fillsFirsts_96 : decode cX12_fillsFirsts 96 = .ok (.goto (-44), 3) := by decide +kernel
theorem dX12_fillsFirsts_99 : decode cX12_fillsFirsts 99 = .ok (.iinc 2 1, 3) := by decide +kernel
theorem dX12_fillsFirsts_102 : decode cX12_fillsFirsts 102 = .ok (.goto (-58), 3) := by decide +kernel
theorem dX12_fillsFirsts_105 : decode cX12_fillsFirsts 105 = .ok (.iinc 1 1, 3) := by decide +kernel
theorem dX12_fillsFirsts_108 : decode cX12_fillsFirsts 108 = .ok (.goto (-85), 3) := by decide +kernel
theorem dX12_fillsFirsts_111 : decode cX12_fillsFirsts 111 = .ok (.return_, 1) := by decide +kernel
set_option maxRecDepth 20000 in
theorem ggX12_drawn_X12_draw : GoodIn wsX12_drawn wsX12_draw := goodIn_r _ [7, 8, 9, 10, 11, 12, 91, 92, 93, 94, 95, 96, 97, 98, 99, 100, 101, 102, 103, 104, 105, 106, 107, 108, 109, 110, 111, 112, 113, 114, 115, 116, 117, 118, 119, 120, 121, 122, 123, 124, 125, 126, 127] (by decide +kernel) (by decide +kernel)
set_option maxRecDepth 20000 in
theorem gX12_drawn_X12_draw : GoodIn wsX12_drawn (wsV RX12 421 RX12 yX12_draw wsX12_draw) := goodIn_app (goodIn_of _ (by decide +kernel)) ggX12_drawn_X12_draw
set_option maxRecDepth 20000 in
theorem ggX12_drawn_X12_verseOf : GoodIn wsX12_drawn wsX12_verseOf := goodIn_r _ [16, 1, 91, 92, 93, 94, 95, 96, 97, 98, 99, 100, 101, 102, 103, 104, 105, 106, 107, 108, 109, 110, 111, 112, 113, 114, 115, 116, 117, 118, 119, 120, 121, 122, 123, 124, 125, 126, 127] (by decide +kernel) (by decide +kernel)
set_option maxRecDepth 20000 in
theorem gX12_drawn_X12_verseOf : GoodIn wsX12_drawn (wsV RX12 301 RX12 yX12_verseOf wsX12_verseOf) := goodIn_app (goodIn_of _ (by decide +kernel)) ggX12_drawn_X12_verseOf
set_option maxRecDepth 20000 in
theorem ggX12_drawn_X12_begins : GoodIn wsX12_drawn wsX12_begins := goodIn_r _ [20, 1, 91, 92, 93, 94, 95, 96, 97, 98, 99, 100, 101, 102, 103, 104, 105, 106, 107, 108, 109, 110, 111, 112, 113, 114, 115, 116, 117, 118, 119, 120, 121, 122, 123, 124, 125, 126, 127] (by decide +kernel) (by decide +kernel)
set_option maxRecDepth 20000 in
theorem gX12_drawn_X12_begins : GoodIn wsX12_drawn (wsV RX12 304 RX12 yX12_begins wsX12_begins) := goodIn_app (goodIn_of _ (by decide +kernel)) ggX12_drawn_X12_begins
set_option maxRecDepth 20000 in
theorem ggX12_drawn_X12_looks : GoodIn wsX12_drawn wsX12_looks := goodIn_r _ [24, 25, 26, 27, 6, 28, 1, 29, 30, 31, 32, 33, 34, 35, 36, 37, 38, 39, 40, 41, 42, 43, 44, 45, 91, 92, 93, 94, 95, 96, 97, 98, 99, 100, 101, 102, 103, 104, 105, 106, 107, 108, 109, 110, 111, 112, 113, 114, 115, 116, 117, 118, 119, 120, 121, 122, 123, 124, 125, 126, 127] (by decide +kernel) (by decide +kernel)
set_option maxRecDepth 20000 in
theorem gX12_drawn_X12_looks : GoodIn wsX12_drawn (wsV RX12 295 RX12 yX12_looks wsX12_looks) := goodIn_app (goodIn_of _ (by decide +kernel)) ggX12_drawn_X12_looks
set_option maxRecDepth 20000 in
theorem ggX12_drawn_X12_runs : GoodIn wsX12_drawn wsX12_runs := goodIn_r _ [49, 1, 50, 41, 51, 52, 53, 6, 54, 55, 56, 57, 58, 59, 60, 61, 62, 63, 64, 29, 30, 31, 32, 33, 34, 35, 36, 65, 66, 67, 68, 69, 70, 71, 72, 73, 74, 75, 76, 77, 78, 79, 80, 81, 82, 37, 38, 39, 40, 42, 43, 44, 45, 83, 84, 85, 86, 21, 22, 23, 24, 25, 26, 27, 28, 87, 88, 89, 90, 91, 92, 93, 94, 95, 96, 97, 98, 99, 100, 101, 102, 103, 104, 105, 106, 107, 108, 109, 110, 111, 112, 113, 114, 115, 116, 117, 118, 119, 120, 121, 122, 123, 124, 125, 126, 127] (by decide +kernel) (by decide +kernel)
set_option maxRecDepth 20000 in
theorem gX12_drawn_X12_runs : GoodIn wsX12_drawn (wsV RX12 339 RX12 yX12_runs wsX12_runs) := goodIn_app (goodIn_of _ (by decide +kernel)) ggX12_drawn_X12_runs
theorem dX12_drawn_0 : decode cX12_drawn 0 = .ok (.aload_n 0, 1) := by decide +kernel
theorem dX12_drawn_1 : decode cX12_drawn 1 = .ok (.aload_n 0, 1) := by decide +kernel
theorem dX12_drawn_2 : decode cX12_drawn 2 = .ok (.getfield 45, 3) := by decide +kernel
theorem dX12_drawn_5 : decode cX12_drawn 5 = .ok (.iconst 0, 1) := by decide +kernel
theorem dX12_drawn_6 : decode cX12_drawn 6 = .ok (.iaload, 1) := by decide +kernel
theorem dX12_drawn_7 : decode cX12_drawn 7 = .ok (.invokevirtual 421, 3) := by decide +kernel
theorem dX12_drawn_10 : decode cX12_drawn 10 = .ok (.istore 4, 2) := by decide +kernel
theorem dX12_drawn_12 : decode cX12_drawn 12 = .ok (.aload_n 0, 1) := by decide +kernel
theorem dX12_drawn_13 : decode cX12_drawn 13 = .ok (.iconst 2, 1) := by decide +kernel
theorem dX12_drawn_14 : decode cX12_drawn 14 = .ok (.invokevirtual 421, 3) := by decide +kernel
theorem dX12_drawn_17 : decode cX12_drawn 17 = .ok (.istore 5, 2) := by decide +kernel
theorem dX12_drawn_19 : decode cX12_drawn 19 = .ok (.iconst 0, 1) := by decide +kernel
theorem dX12_drawn_20 : decode cX12_drawn 20 = .ok (.istore 6, 2) := by decide +kernel
theorem dX12_drawn_22 : decode cX12_drawn 22 = .ok (.iload 6, 2) := by decide +kernel
theorem dX12_drawn_24 : decode cX12_drawn 24 = .ok (.iconst 2, 1) := by decide +kernel
theorem dX12_drawn_25 : decode cX12_drawn 25 = .ok (.if_icmp .ge 26, 3) := by decide +kernel
theorem dX12_drawn_28 : decode cX12_drawn 28 = .ok (.aload_n 0, 1) := by decide +kernel
theorem dX12_drawn_29 : decode cX12_drawn 29 = .ok (.getfield 45, 3) := by decide +kernel
theorem dX12_drawn_32 : decode cX12_drawn 32 = .ok (.bipush 12, 2) := by decide +kernel
theorem dX12_drawn_34 : decode cX12_drawn 34 = .ok (.iload 6, 2) := by decide +kernel
theorem dX12_drawn_36 : decode cX12_drawn 36 = .ok (.iadd, 1) := by decide +kernel
theorem dX12_drawn_37 : decode cX12_drawn 37 = .ok (.aload_n 0, 1) := by decide +kernel
theorem dX12_drawn_38 : decode cX12_drawn 38 = .ok (.iload_n 3, 1) := by decide +kernel
theorem dX12_drawn_39 : decode cX12_drawn 39 = .ok (.iconst 1, 1) := by decide +kernel
theorem dX12_drawn_40 : decode cX12_drawn 40 = .ok (.iadd, 1) := by decide +kernel
theorem dX12_drawn_41 : decode cX12_drawn 41 = .ok (.invokevirtual 421, 3) := by decide +kernel
theorem dX12_drawn_44 : decode cX12_drawn 44 = .ok (.iastore, 1) := by decide +kernel
theorem dX12_drawn_45 : decode cX12_drawn 45 = .ok (.iinc 6 1, 3) := by decide +kernel
theorem dX12_drawn_48 : decode cX12_drawn 48 = .ok (.goto (-26), 3) := by decide +kernel
theorem dX12_drawn_51 : decode cX12_drawn 51 = .ok (.iload_n 1, 1) := by decide +kernel
theorem dX12_drawn_52 : decode cX12_drawn 52 = .ok (.ifCond .ge 55, 3) := by decide +kernel
theorem dX12_drawn_55 : decode cX12_drawn 55 = .ok (.iload_n 2, 1) := by decide +kernel
theorem dX12_drawn_56 : decode cX12_drawn 56 = .ok (.ifCond .ge 51, 3) := by decide +kernel
theorem dX12_drawn_59 : decode cX12_drawn 59 = .ok (.aload_n 0, 1) := by decide +kernel
theorem dX12_drawn_60 : decode cX12_drawn 60 = .ok (.getfield 66, 3) := by decide +kernel
theorem dX12_drawn_63 : decode cX12_drawn 63 = .ok (.bipush 8, 2) := by decide +kernel
theorem dX12_drawn_65 : decode cX12_drawn 65 = .ok (.aload_n 0, 1) := by decide +kernel
theorem dX12_drawn_66 : decode cX12_drawn 66 = .ok (.getfield 45, 3) := by decide +kernel
theorem dX12_drawn_69 : decode cX12_drawn 69 = .ok (.bipush 12, 2) := by decide +kernel
theorem dX12_drawn_71 : decode cX12_drawn 71 = .ok (.iload 5, 2) := by decide +kernel
theorem dX12_drawn_73 : decode cX12_drawn 73 = .ok (.iadd, 1) := by decide +kernel
theorem dX12_drawn_74 : decode cX12_drawn 74 = .ok (.iaload, 1) := by decide +kernel
theorem dX12_drawn_75 : decode cX12_drawn 75 = .ok (.imul, 1) := by decide +kernel
theorem dX12_drawn_76 : decode cX12_drawn 76 = .ok (.aload_n 0, 1) := by decide +kernel
theorem dX12_drawn_77 : decode cX12_drawn 77 = .ok (.getfield 45, 3) := by decide +kernel
theorem dX12_drawn_80 : decode cX12_drawn 80 = .ok (.bipush 13, 2) := by decide +kernel
theorem dX12_drawn_82 : decode cX12_drawn 82 = .ok (.iload 5, 2) := by decide +kernel
theorem dX12_drawn_84 : decode cX12_drawn 84 = .ok (.isub, 1) := by decide +kernel
theorem dX12_drawn_85 : decode cX12_drawn 85 = .ok (.iaload, 1) := by decide +kernel
theorem dX12_drawn_86 : decode cX12_drawn 86 = .ok (.iadd, 1) := by decide +kernel
theorem dX12_drawn_87 : decode cX12_drawn 87 = .ok (.iaload, 1) := by decide +kernel
theorem dX12_drawn_88 : decode cX12_drawn 88 = .ok (.iload 4, 2) := by decide +kernel
theorem dX12_drawn_90 : decode cX12_drawn 90 = .ok (.ishr, 1) := by decide +kernel
theorem dX12_drawn_91 : decode cX12_drawn 91 = .ok (.iconst 1, 1) := by decide +kernel
theorem dX12_drawn_92 : decode cX12_drawn 92 = .ok (.iand, 1) := by decide +kernel
theorem dX12_drawn_93 : decode cX12_drawn 93 = .ok (.iconst 1, 1) := by decide +kernel
theorem dX12_drawn_94 : decode cX12_drawn 94 = .ok (.if_icmp .ne 8, 3) := by decide +kernel
theorem dX12_drawn_97 : decode cX12_drawn 97 = .ok (.iload 5, 2) := by decide +kernel
theorem dX12_drawn_99 : decode cX12_drawn 99 = .ok (.goto 7, 3) := by decide +kernel
theorem dX12_drawn_102 : decode cX12_drawn 102 = .ok (.iconst 1, 1) := by decide +kernel
theorem dX12_drawn_103 : decode cX12_drawn 103 = .ok (.iload 5, 2) := by decide +kernel
theorem dX12_drawn_105 : decode cX12_drawn 105 = .ok (.isub, 1) := by decide +kernel
theorem dX12_drawn_106 : decode cX12_drawn 106 = .ok (.ireturn, 1) := by decide +kernel
theorem dX12_drawn_107 : decode cX12_drawn 107 = .ok (.aload_n 0, 1) := by decide +kernel
theorem dX12_drawn_108 : decode cX12_drawn 108 = .ok (.aload_n 0, 1) := by decide +kernel
theorem dX12_drawn_109 : decode cX12_drawn 109 = .ok (.iload 4, 2) := by decide +kernel
theorem dX12_drawn_111 : decode cX12_drawn 111 = .ok (.invokevirtual 301, 3) := by decide +kernel
theorem dX12_drawn_114 : decode cX12_drawn 114 = .ok (.iload 5, 2) := by decide +kernel
theorem dX12_drawn_116 : decode cX12_drawn 116 = .ok (.invokevirtual 304, 3) := by decide +kernel
theorem dX12_drawn_119 : decode cX12_drawn 119 = .ok (.aload_n 0, 1) := by decide +kernel
theorem dX12_drawn_120 : decode cX12_drawn 120 = .ok (.invokevirtual 295, 3) := by decide +kernel
theorem dX12_drawn_123 : decode cX12_drawn 123 = .ok (.aload_n 0, 1) := by decide +kernel
theorem dX12_drawn_124 : decode cX12_drawn 124 = .ok (.iload_n 1, 1) := by decide +kernel
theorem dX12_drawn_125 : decode cX12_drawn 125 = .ok (.iload_n 2, 1) := by decide +kernel
theorem dX12_drawn_126 : decode cX12_drawn 126 = .ok (.invokevirtual 339, 3) := by decide +kernel
theorem dX12_drawn_129 : decode cX12_drawn 129 = .ok (.ireturn, 1) := by decide +kernel
set_option maxRecDepth 20000 in
theorem ggX12_lots_X12_isCorner : GoodIn wsX12_lots wsX12_isCorner := goodIn_r _ [11, 4, 151, 152, 153, 154, 155, 156, 157, 158, 159, 160, 161, 162, 163, 164, 165, 166, 167, 168, 169, 170, 171, 172, 173, 174, 175, 176, 177, 178, 179, 180, 181, 182, 183, 184, 185, 186, 187] (by decide +kernel) (by decide +kernel)
set_option maxRecDepth 20000 in
theorem gX12_lots_X12_isCorner : GoodIn wsX12_lots (wsV RX12 316 RX12 yX12_isCorner wsX12_isCorner) := goodIn_app (goodIn_of _ (by decide +kernel)) ggX12_lots_X12_isCorner
set_option maxRecDepth 20000 in
theorem ggX12_lots_X12_areRules : GoodIn wsX12_lots wsX12_areRules := goodIn_r _ [15, 16, 17, 18, 10, 19, 20, 151, 152, 153, 154, 155, 156, 157, 158, 159, 160, 161, 162, 163, 164, 165, 166, 167, 168, 169, 170, 171, 172, 173, 174, 175, 176, 177, 178, 179, 180, 181, 182, 183, 184, 185, 186, 187] (by decide +kernel) (by decide +kernel)
set_option maxRecDepth 20000 in
theorem gX12_lots_X12_areRules : GoodIn wsX12_lots (wsV RX12 336 RX12 yX12_areRules wsX12_areRules) := goodIn_app (goodIn_of _ (by decide +kernel)) ggX12_lots_X12_areRules
set_option maxRecDepth 20000 in
theorem ggX12_lots_X12_in : GoodIn wsX12_lots wsX12_in := goodIn_r _ [23] (by decide +kernel) (by decide +kernel)
set_option maxRecDepth 20000 in
theorem gX12_lots_X12_in : GoodIn wsX12_lots (va_wsS RX12 115 yX12_in wsX12_in) := goodIn_app (goodIn_of _ (by decide +kernel)) ggX12_lots_X12_in
set_option maxRecDepth 20000 in
theorem ggX12_lots_X12_fillsFirsts : GoodIn wsX12_lots wsX12_fillsFirsts := goodIn_r _ [27, 28, 4, 29, 30, 31, 10, 32, 33, 34, 35, 36, 2, 21, 22, 23, 37, 38, 39, 40, 41, 42, 43, 44, 45, 46, 47, 48, 49, 50, 51, 52, 53, 54, 55, 56, 151, 152, 153, 154, 155, 156, 157, 158, 159, 160, 161, 162, 163, 164, 165, 166, 167, 168, 169, 170, 171, 172, 173, 174, 175, 176, 177, 178, 179, 180, 181, 182, 183, 184, 185, 186, 187] (by decide +kernel) (by decide +kernel)
set_option maxRecDepth 20000 in
theorem gX12_lots_X12_fillsFirsts : GoodIn wsX12_lots (wsV RX12 428 RX12 yX12_fillsFirsts wsX12_fillsFirsts) := goodIn_app (goodIn_of _ (by decide +kernel)) ggX12_lots_X12_fillsFirsts
set_option maxRecDepth 20000 in
theorem ggX12_lots_X12_keeps : GoodIn wsX12_lots wsX12_keeps := goodIn_r _ [60, 6, 4, 151, 152, 153, 154, 155, 156, 157, 158, 159, 160, 161, 162, 163, 164, 165, 166, 167, 168, 169, 170, 171, 172, 173, 174, 175, 176, 177, 178, 179, 180, 181, 182, 183, 184, 185, 186, 187] (by decide +kernel) (by decide +kernel)
set_option maxRecDepth 20000 in
theorem gX12_lots_X12_keeps : GoodIn wsX12_lots (wsV RX12 343 RX12 yX12_keeps wsX12_keeps) := goodIn_app (goodIn_of _ (by decide +kernel)) ggX12_lots_X12_keeps
set_option maxRecDepth 20000 in
theorem ggX12_lots_X12_drawn : GoodIn wsX12_lots wsX12_drawn := goodIn_r _ [64, 4, 28, 65, 66, 67, 10, 68, 5, 69, 70, 71, 72, 29, 30, 31, 32, 73, 74, 75, 76, 77, 78, 79, 80, 81, 82, 83, 84, 85, 86, 87, 88, 89, 90, 91, 92, 93, 94, 95, 96, 97, 98, 99, 100, 101, 102, 103, 104, 105, 106, 107, 108, 109, 110, 111, 112, 113, 114, 115, 116, 117, 118, 119, 120, 121, 122, 123, 124, 125, 126, 127, 128, 129, 130, 131, 132, 133, 134, 135, 136, 137, 138, 139, 140, 141, 142, 143, 144, 145, 146, 151, 152, 153, 154, 155, 156, 157, 158, 159, 160, 161, 162, 163, 164, 165, 166, 167, 168, 169, 170, 171, 172, 173, 174, 175, 176, 177, 178, 179, 180, 181, 182, 183, 184, 185, 186, 187] (by decide +kernel) (by decide +kernel)
set_option maxRecDepth 20000 in
theorem gX12_lots_X12_drawn : GoodIn wsX12_lots (wsV RX12 431 RX12 yX12_drawn wsX12_drawn) := goodIn_app (goodIn_of _ (by decide +kernel)) ggX12_lots_X12_drawn
set_option maxRecDepth 20000 in
theorem ggX12_lots_X12_putsBack : GoodIn wsX12_lots wsX12_putsBack := goodIn_r _ [150, 4, 6, 151, 152, 153, 154, 155, 156, 157, 158, 159, 160, 161, 162, 163, 164, 165, 166, 167, 168, 169, 170, 171, 172, 173, 174, 175, 176, 177, 178, 179, 180, 181, 182, 183, 184, 185, 186, 187] (by decide +kernel) (by decide +kernel)
set_option maxRecDepth 20000 in
theorem gX12_lots_X12_putsBack : GoodIn wsX12_lots (wsV RX12 346 RX12 yX12_putsBack wsX12_putsBack) := goodIn_app (goodIn_of _ (by decide +kernel)) ggX12_lots_X12_putsBack
theorem dX12_lots_0 : decode cX12_lots 0 = .ok (.aload_n 0, 1) := by decide +kernel
theorem dX12_lots_1 : decode cX12_lots 1 = .ok (.invokevirtual 316, 3) := by decide +kernel
theorem dX12_lots_4 : decode cX12_lots 4 = .ok (.ifCond .eq 71, 3) := by decide +kernel
theorem dX12_lots_7 : decode cX12_lots 7 = .ok (.aload_n 0, 1) := by decide +kernel
theorem dX12_lots_8 : decode cX12_lots 8 = .ok (.iload_n 1, 1) := by decide +kernel
theorem dX12_lots_9 : decode cX12_lots 9 = .ok (.iload_n 2, 1) := by decide +kernel
theorem dX12_lots_10 : decode cX12_lots 10 = .ok (.invokevirtual 336, 3) := by decide +kernel
theorem dX12_lots_13 : decode cX12_lots 13 = .ok (.ifCond .eq 62, 3) := by decide +kernel
theorem dX12_lots_16 : decode cX12_lots 16 = .ok (.iload_n 1, 1) := by decide +kernel
theorem dX12_lots_17 : decode cX12_lots 17 = .ok (.ifCond .ge 7, 3) := by decide +kernel
theorem dX12_lots_20 : decode cX12_lots 20 = .ok (.iconst 1, 1) := by decide +kernel
theorem dX12_lots_21 : decode cX12_lots 21 = .ok (.goto 4, 3) := by decide +kernel
theorem dX12_lots_24 : decode cX12_lots 24 = .ok (.iconst 0, 1) := by decide +kernel
theorem dX12_lots_25 : decode cX12_lots 25 = .ok (.iload_n 2, 1) := by decide +kernel
theorem dX12_lots_26 : decode cX12_lots 26 = .ok (.ifCond .ge 7, 3) := by decide +kernel
theorem dX12_lots_29 : decode cX12_lots 29 = .ok (.iconst 1, 1) := by decide +kernel
theorem dX12_lots_30 : decode cX12_lots 30 = .ok (.goto 4, 3) := by decide +kernel
theorem dX12_lots_33 : decode cX12_lots 33 = .ok (.iconst 0, 1) := by decide +kernel
theorem dX12_lots_34 : decode cX12_lots 34 = .ok (.if_icmp .ne 41, 3) := by decide +kernel
theorem dX12_lots_37 : decode cX12_lots 37 = .ok (.iload_n 3, 1) := by decide +kernel
theorem dX12_lots_38 : decode cX12_lots 38 = .ok (.i2l, 1) := by decide +kernel
theorem dX12_lots_39 : decode cX12_lots 39 = .ok (.lconst 1, 1) := by decide +kernel
theorem dX12_lots_40 : decode cX12_lots 40 = .ok (.ldc2_w 424, 3) := by decide +kernel
theorem dX12_lots_43 : decode cX12_lots 43 = .ok (.invokestatic 115, 3) := by decide +kernel
theorem dX12_lots_46 : decode cX12_lots 46 = .ok (.ifCond .eq 29, 3) := by decide +kernel
theorem dX12_lots_49 : decode cX12_lots 49 = .ok (.iload 4, 2) := by decide +kernel
theorem dX12_lots_51 : decode cX12_lots 51 = .ok (.i2l, 1) := by decide +kernel
theorem dX12_lots_52 : decode cX12_lots 52 = .ok (.lconst 0, 1) := by decide +kernel
theorem dX12_lots_53 : decode cX12_lots 53 = .ok (.ldc2_w 321, 3) := by decide +kernel
theorem dX12_lots_56 : decode cX12_lots 56 = .ok (.invokestatic 115, 3) := by decide +kernel
theorem dX12_lots_59 : decode cX12_lots 59 = .ok (.ifCond .eq 16, 3) := by decide +kernel
theorem dX12_lots_62 : decode cX12_lots 62 = .ok (.iload 5, 2) := by decide +kernel
theorem dX12_lots_64 : decode cX12_lots 64 = .ok (.i2l, 1) := by decide +kernel
theorem dX12_lots_65 : decode cX12_lots 65 = .ok (.lconst 0, 1) := by decide +kernel
theorem dX12_lots_66 : decode cX12_lots 66 = .ok (.ldc2_w 426, 3) := by decide +kernel
theorem dX12_lots_69 : decode cX12_lots 69 = .ok (.invokestatic 115, 3) := by decide +kernel
theorem dX12_lots_72 : decode cX12_lots 72 = .ok (.ifCond .ne 5, 3) := by decide +kernel
theorem dX12_lots_75 : decode cX12_lots 75 = .ok (.iconst (-1), 1) := by decide +kernel
theorem dX12_lots_76 : decode cX12_lots 76 = .ok (.ireturn, 1) := by decide +kernel
theorem dX12_lots_77 : decode cX12_lots 77 = .ok (.iload_n 1, 1) := by decide +kernel
theorem dX12_lots_78 : decode cX12_lots 78 = .ok (.ifCond .ge 7, 3) := by decide +kernel
theorem dX12_lots_81 : decode cX12_lots 81 = .ok (.aload_n 0, 1) := by decide +kernel
theorem dX12_lots_82 : decode cX12_lots 82 = .ok (.invokevirtual 428, 3) := by decide +kernel
theorem dX12_lots_85 : decode cX12_lots 85 = .ok (.aload_n 0, 1) := by decide +kernel
theorem dX12_lots_86 : decode cX12_lots 86 = .ok (.invokevirtual 343, 3) := by decide +kernel
theorem dX12_lots_89 : decode cX12_lots 89 = .ok (.aload_n 0, 1) := by decide +kernel
theorem dX12_lots_90 : decode cX12_lots 90 = .ok (.aload_n 0, 1) := by decide +kernel
theorem dX12_lots_91 : decode cX12_lots 91 = .ok (.getfield 45, 3) := by decide +kernel
theorem dX12_lots_94 : decode cX12_lots 94 = .ok (.bipush 11, 2) := by decide +kernel
theorem dX12_lots_96 : decode cX12_lots 96 = .ok (.iaload, 1) := by decide +kernel
theorem dX12_lots_97 : decode cX12_lots 97 = .ok (.i2l, 1) := by decide +kernel
theorem dX12_lots_98 : decode cX12_lots 98 = .ok (.putfield 409, 3) := by decide +kernel
theorem dX12_lots_101 : decode cX12_lots 101 = .ok (.iconst 0, 1) := by decide +kernel
theorem dX12_lots_102 : decode cX12_lots 102 = .ok (.istore 6, 2) := by decide +kernel
theorem dX12_lots_104 : decode cX12_lots 104 = .ok (.iconst 0, 1) := by decide +kernel
theorem dX12_lots_105 : decode cX12_lots 105 = .ok (.istore 7, 2) := by decide +kernel
theorem dX12_lots_107 : decode cX12_lots 107 = .ok (.iload 7, 2) := by decide +kernel
theorem dX12_lots_109 : decode cX12_lots 109 = .ok (.iload_n 3, 1) := by decide +kernel
theorem dX12_lots_110 : decode cX12_lots 110 = .ok (.if_icmp .ge 64, 3) := by decide +kernel
theorem dX12_lots_113 : decode cX12_lots 113 = .ok (.aload_n 0, 1) := by decide +kernel
theorem dX12_lots_114 : decode cX12_lots 114 = .ok (.iload_n 1, 1) := by decide +kernel
theorem dX12_lots_115 : decode cX12_lots 115 = .ok (.iload_n 2, 1) := by decide +kernel
theorem dX12_lots_116 : decode cX12_lots 116 = .ok (.iload 4, 2) := by decide +kernel
theorem dX12_lots_118 : decode cX12_lots 118 = .ok (.invokevirtual 431, 3) := by decide +kernel
theorem dX12_lots_121 : decode cX12_lots 121 = .ok (.istore 8, 2) := by decide +kernel
theorem dX12_lots_123 : decode cX12_lots 123 = .ok (.iload 6, 2) := by decide +kernel
theorem dX12_lots_125 : decode cX12_lots 125 = .ok (.iload 5, 2) := by decide +kernel
theorem dX12_lots_127 : decode cX12_lots 127 = .ok (.iconst 2, 1) := by decide +kernel
theorem dX12_lots_128 : decode cX12_lots 128 = .ok (.if_icmp .ne 21, 3) := by decide +kernel
theorem dX12_lots_131 : decode cX12_lots 131 = .ok (.aload_n 0, 1) := by decide +kernel
theorem dX12_lots_132 : decode cX12_lots 132 = .ok (.getfield 45, 3) := by decide +kernel
theorem dX12_lots_135 : decode cX12_lots 135 = .ok (.bipush 9, 2) := by decide +kernel
theorem dX12_lots_137 : decode cX12_lots 137 = .ok (.iaload, 1) := by decide +kernel
theorem dX12_lots_138 : decode cX12_lots 138 = .ok (.aload_n 0, 1) := by decide +kernel
theorem dX12_lots_139 : decode cX12_lots 139 = .ok (.getfield 48, 3) := by decide +kernel
theorem dX12_lots_142 : decode cX12_lots 142 = .ok (.bipush 9, 2) := by decide +kernel
theorem dX12_lots_144 : decode cX12_lots 144 = .ok (.iaload, 1) := by decide +kernel
theorem dX12_lots_145 : decode cX12_lots 145 = .ok (.isub, 1) := by decide +kernel
theorem dX12_lots_146 : decode cX12_lots 146 = .ok (.goto 15, 3) := by decide +kernel
theorem dX12_lots_149 : decode cX12_lots 149 = .ok (.iload 8, 2) := by decide +kernel
theorem dX12_lots_151 : decode cX12_lots 151 = .ok (.iload 5, 2) := by decide +kernel
theorem dX12_lots_153 : decode cX12_lots 153 = .ok (.if_icmp .ne 7, 3) := by decide +kernel
theorem dX12_lots_156 : decode cX12_lots 156 = .ok (.iconst 1, 1) := by decide +kernel
theorem dX12_lots_157 : decode cX12_lots 157 = .ok (.goto 4, 3) := by decide +kernel
theorem dX12_lots_160 : decode cX12_lots 160 = .ok (.iconst 0, 1) := by decide +kernel
theorem dX12_lots_161 : decode cX12_lots 161 = .ok (.iadd, 1) := by decide +kernel
theorem dX12_lots_162 : decode cX12_lots 162 = .ok (.istore 6, 2) := by decide +kernel
theorem dX12_lots_164 : decode cX12_lots 164 = .ok (.aload_n 0, 1) := by decide +kernel
theorem dX12_lots_165 : decode cX12_lots 165 = .ok (.invokevirtual 346, 3) := by decide +kernel
theorem dX12_lots_168 : decode cX12_lots 168 = .ok (.iinc 7 1, 3) := by decide +kernel
theorem dX12_lots_171 : decode cX12_lots 171 = .ok (.goto (-64), 3) := by decide +kernel
theorem dX12_lots_174 : decode cX12_lots 174 = .ok (.iload 6, 2) := by decide +kernel
theorem dX12_lots_176 : decode cX12_lots 176 = .ok (.ireturn, 1) := by decide +kernel
set_option maxRecDepth 20000 in
theorem ggX12_count_X12_goesOn : GoodIn wsX12_count wsX12_goesOn := goodIn_r _ [8, 1, 9, 10, 11, 12, 13, 14, 15, 16, 17, 18, 19, 20, 21, 22, 23, 24, 25, 26, 27, 28, 29, 30, 31, 32, 33, 34, 35, 36, 37, 38, 39, 40, 41, 42, 43, 44, 45] (by decide +kernel) (by decide +kernel)
set_option maxRecDepth 20000 in
theorem gX12_count_X12_goesOn : GoodIn wsX12_count (wsV RX12 307 RX12 yX12_goesOn wsX12_goesOn) := goodIn_app (goodIn_of _ (by decide +kernel)) ggX12_count_X12_goesOn
theorem dX12_count_0 : decode cX12_count 0 = .ok (.iload_n 1, 1) := by decide +kernel
theorem dX12_count_1 : decode cX12_count 1 = .ok (.tableswitch 194 0 11 #[63, 63, 70, 75, 93, 112, 130, 138, 157, 173, 181, 189], 63) := by decide +kernel
theorem dX12_count_64 : decode cX12_count 64 = .ok (.aload_n 0, 1) := by decide +kernel
theorem dX12_count_65 : decode cX12_count 65 = .ok (.getfield 45, 3) := by decide +kernel
theorem dX12_count_68 : decode cX12_count 68 = .ok (.iload_n 1, 1) := by decide +kernel
theorem dX12_count_69 : decode cX12_count 69 = .ok (.iaload, 1) := by decide +kernel
theorem dX12_count_70 : decode cX12_count 70 = .ok (.ireturn, 1) := by decide +kernel
theorem dX12_count_71 : decode cX12_count 71 = .ok (.aload_n 0, 1) := by decide +kernel
theorem dX12_count_72 : decode cX12_count 72 = .ok (.getfield 256, 3) := by decide +kernel
theorem dX12_count_75 : decode cX12_count 75 = .ok (.ireturn, 1) := by decide +kernel
theorem dX12_count_76 : decode cX12_count 76 = .ok (.aload_n 0, 1) := by decide +kernel
theorem dX12_count_77 : decode cX12_count 77 = .ok (.invokevirtual 307, 3) := by decide +kernel
theorem dX12_count_80 : decode cX12_count 80 = .ok (.ifCond .eq 12, 3) := by decide +kernel
theorem dX12_count_83 : decode cX12_count 83 = .ok (.aload_n 0, 1) := by decide +kernel
theorem dX12_count_84 : decode cX12_count 84 = .ok (.getfield 45, 3) := by decide +kernel
theorem dX12_count_87 : decode cX12_count 87 = .ok (.iconst 5, 1) := by decide +kernel
theorem dX12_count_88 : decode cX12_count 88 = .ok (.iaload, 1) := by decide +kernel
theorem dX12_count_89 : decode cX12_count 89 = .ok (.goto 4, 3) := by decide +kernel
theorem dX12_count_92 : decode cX12_count 92 = .ok (.iconst 0, 1) := by decide +kernel
theorem dX12_count_93 : decode cX12_count 93 = .ok (.ireturn, 1) := by decide +kernel
theorem dX12_count_94 : decode cX12_count 94 = .ok (.aload_n 0, 1) := by decide +kernel
theorem dX12_count_95 : decode cX12_count 95 = .ok (.invokevirtual 307, 3) := by decide +kernel
theorem dX12_count_98 : decode cX12_count 98 = .ok (.ifCond .eq 13, 3) := by decide +kernel
theorem dX12_count_101 : decode cX12_count 101 = .ok (.aload_n 0, 1) := by decide +kernel
theorem dX12_count_102 : decode cX12_count 102 = .ok (.getfield 45, 3) := by decide +kernel
theorem dX12_count_105 : decode cX12_count 105 = .ok (.bipush 6, 2) := by decide +kernel
theorem dX12_count_107 : decode cX12_count 107 = .ok (.iaload, 1) := by decide +kernel
theorem dX12_count_108 : decode cX12_count 108 = .ok (.goto 4, 3) := by decide +kernel
theorem dX12_count_111 : decode cX12_count 111 = .ok (.iconst (-1), 1) := by decide +kernel
theorem dX12_count_112 : decode cX12_count 112 = .ok (.ireturn, 1) := by decide +kernel
theorem dX12_count_113 : decode cX12_count 113 = .ok (.aload_n 0, 1) := by decide +kernel
theorem dX12_count_114 : decode cX12_count 114 = .ok (.invokevirtual 307, 3) := by decide +kernel
theorem dX12_count_117 : decode cX12_count 117 = .ok (.ifCond .eq 12, 3) := by decide +kernel
theorem dX12_count_120 : decode cX12_count 120 = .ok (.aload_n 0, 1) := by decide +kernel
theorem dX12_count_121 : decode cX12_count 121 = .ok (.getfield 45, 3) := by decide +kernel
theorem dX12_count_124 : decode cX12_count 124 = .ok (.iconst 4, 1) := by decide +kernel
theorem dX12_count_125 : decode cX12_count 125 = .ok (.iaload, 1) := by decide +kernel
theorem dX12_count_126 : decode cX12_count 126 = .ok (.goto 4, 3) := by decide +kernel
theorem dX12_count_129 : decode cX12_count 129 = .ok (.iconst 0, 1) := by decide +kernel
theorem dX12_count_130 : decode cX12_count 130 = .ok (.ireturn, 1) := by decide +kernel
theorem dX12_count_131 : decode cX12_count 131 = .ok (.aload_n 0, 1) := by decide +kernel
theorem dX12_count_132 : decode cX12_count 132 = .ok (.getfield 45, 3) := by decide +kernel
theorem dX12_count_135 : decode cX12_count 135 = .ok (.bipush 9, 2) := by decide +kernel
theorem dX12_count_137 : decode cX12_count 137 = .ok (.iaload, 1) := by decide +kernel
theorem dX12_count_138 : decode cX12_count 138 = .ok (.ireturn, 1) := by decide +kernel
theorem dX12_count_139 : decode cX12_count 139 = .ok (.aload_n 0, 1) := by decide +kernel
theorem dX12_count_140 : decode cX12_count 140 = .ok (.invokevirtual 307, 3) := by decide +kernel
theorem dX12_count_143 : decode cX12_count 143 = .ok (.ifCond .eq 13, 3) := by decide +kernel
theorem dX12_count_146 : decode cX12_count 146 = .ok (.aload_n 0, 1) := by decide +kernel
theorem dX12_count_147 : decode cX12_count 147 = .ok (.getfield 45, 3) := by decide +kernel
theorem dX12_count_150 : decode cX12_count 150 = .ok (.bipush 7, 2) := by decide +kernel
theorem dX12_count_152 : decode cX12_count 152 = .ok (.iaload, 1) := by decide +kernel
theorem dX12_count_153 : decode cX12_count 153 = .ok (.goto 4, 3) := by decide +kernel
theorem dX12_count_156 : decode cX12_count 156 = .ok (.iconst 0, 1) := by decide +kernel
theorem dX12_count_157 : decode cX12_count 157 = .ok (.ireturn, 1) := by decide +kernel
theorem dX12_count_158 : decode cX12_count 158 = .ok (.aload_n 0, 1) := by decide +kernel
theorem dX12_count_159 : decode cX12_count 159 = .ok (.getfield 45, 3) := by decide +kernel
theorem dX12_count_162 : decode cX12_count 162 = .ok (.bipush 18, 2) := by decide +kernel
theorem dX12_count_164 : decode cX12_count 164 = .ok (.iaload, 1) := by decide +kernel
theorem dX12_count_165 : decode cX12_count 165 = .ok (.aload_n 0, 1) := by decide +kernel
theorem dX12_count_166 : decode cX12_count 166 = .ok (.getfield 45, 3) := by decide +kernel
theorem dX12_count_169 : decode cX12_count 169 = .ok (.bipush 19, 2) := by decide +kernel
theorem dX12_count_171 : decode cX12_count 171 = .ok (.iaload, 1) := by decide +kernel
theorem dX12_count_172 : decode cX12_count 172 = .ok (.iadd, 1) := by decide +kernel
theorem dX12_count_173 : decode cX12_count 173 = .ok (.ireturn, 1) := by decide +kernel
theorem dX12_count_174 : decode cX12_count 174 = .ok (.aload_n 0, 1) := by decide +kernel
theorem dX12_count_175 : decode cX12_count 175 = .ok (.getfield 45, 3) := by decide +kernel
theorem dX12_count_178 : decode cX12_count 178 = .ok (.bipush 10, 2) := by decide +kernel
theorem dX12_count_180 : decode cX12_count 180 = .ok (.iaload, 1) := by decide +kernel
theorem dX12_count_181 : decode cX12_count 181 = .ok (.ireturn, 1) := by decide +kernel
theorem dX12_count_182 : decode cX12_count 182 = .ok (.aload_n 0, 1) := by decide +kernel
theorem dX12_count_183 : decode cX12_count 183 = .ok (.getfield 45, 3) := by decide +kernel
theorem dX12_count_186 : decode cX12_count 186 = .ok (.bipush 11, 2) := by decide +kernel
theorem dX12_count_188 : decode cX12_count 188 = .ok (.iaload, 1) := by decide +kernel
theorem dX12_count_189 : decode cX12_count 189 = .ok (.ireturn, 1) := by decide +kernel
theorem dX12_count_190 : decode cX12_count 190 = .ok (.aload_n 0, 1) := by decide +kernel
theorem dX12_count_191 : decode cX12_count 191 = .ok (.getfield 76, 3) := by decide +kernel
theorem dX12_count_194 : decode cX12_count 194 = .ok (.ireturn, 1) := by decide +kernel
theorem dX12_count_195 : decode cX12_count 195 = .ok (.iconst (-1), 1) := by decide +kernel
theorem dX12_count_196 : decode cX12_count 196 = .ok (.ireturn, 1) := by decide +kernel
set_option maxRecDepth 20000 in
theorem ggX12_image_X12_in : GoodIn wsX12_image wsX12_in := goodIn_r _ [8] (by decide +kernel) (by decide +kernel)
set_option maxRecDepth 20000 in
theorem gX12_image_X12_in : GoodIn wsX12_image (va_wsS RX12 115 yX12_in wsX12_in) := goodIn_app (goodIn_of _ (by decide +kernel)) ggX12_image_X12_in
theorem dX12_image_0 : decode cX12_image 0 = .ok (.iload_n 1, 1) := by decide +kernel
theorem dX12_image_1 : decode cX12_image 1 = .ok (.i2l, 1) := by decide +kernel
theorem dX12_image_2 : decode cX12_image 2 = .ok (.lconst 0, 1) := by decide +kernel
theorem dX12_image_3 : decode cX12_image 3 = .ok (.ldc2_w 319, 3) := by decide +kernel
theorem dX12_image_6 : decode cX12_image 6 = .ok (.invokestatic 115, 3) := by decide +kernel
theorem dX12_image_9 : decode cX12_image 9 = .ok (.ifCond .ne 5, 3) := by decide +kernel
theorem dX12_image_12 : decode cX12_image 12 = .ok (.iconst (-1), 1) := by decide +kernel
theorem dX12_image_13 : decode cX12_image 13 = .ok (.ireturn, 1) := by decide +kernel
theorem dX12_image_14 : decode cX12_image 14 = .ok (.aload_n 0, 1) := by decide +kernel
theorem dX12_image_15 : decode cX12_image 15 = .ok (.getfield 72, 3) := by decide +kernel
theorem dX12_image_18 : decode cX12_image 18 = .ok (.iload_n 1, 1) := by decide +kernel
theorem dX12_image_19 : decode cX12_image 19 = .ok (.iconst 1, 1) := by decide +kernel
theorem dX12_image_20 : decode cX12_image 20 = .ok (.bastore, 1) := by decide +kernel
theorem dX12_image_21 : decode cX12_image 21 = .ok (.iconst 0, 1) := by decide +kernel
theorem dX12_image_22 : decode cX12_image 22 = .ok (.istore_n 2, 1) := by decide +kernel
theorem dX12_image_23 : decode cX12_image 23 = .ok (.iload_n 2, 1) := by decide +kernel
theorem dX12_image_24 : decode cX12_image 24 = .ok (.bipush 44, 2) := by decide +kernel
theorem dX12_image_26 : decode cX12_image 26 = .ok (.if_icmp .ge 26, 3) := by decide +kernel
theorem dX12_image_29 : decode cX12_image 29 = .ok (.aload_n 0, 1) := by decide +kernel
theorem dX12_image_30 : decode cX12_image 30 = .ok (.getfield 69, 3) := by decide +kernel
theorem dX12_image_33 : decode cX12_image 33 = .ok (.bipush 44, 2) := by decide +kernel
theorem dX12_image_35 : decode cX12_image 35 = .ok (.iload_n 1, 1) := by decide +kernel
theorem dX12_image_36 : decode cX12_image 36 = .ok (.imul, 1) := by decide +kernel
theorem dX12_image_37 : decode cX12_image 37 = .ok (.iload_n 2, 1) := by decide +kernel
theorem dX12_image_38 : decode cX12_image 38 = .ok (.iadd, 1) := by decide +kernel
theorem dX12_image_39 : decode cX12_image 39 = .ok (.aload_n 0, 1) := by decide +kernel
theorem dX12_image_40 : decode cX12_image 40 = .ok (.getfield 45, 3) := by decide +kernel
theorem dX12_image_43 : decode cX12_image 43 = .ok (.iload_n 2, 1) := by decide +kernel
theorem dX12_image_44 : decode cX12_image 44 = .ok (.iaload, 1) := by decide +kernel
theorem dX12_image_45 : decode cX12_image 45 = .ok (.iastore, 1) := by decide +kernel
theorem dX12_image_46 : decode cX12_image 46 = .ok (.iinc 2 1, 3) := by decide +kernel
theorem dX12_image_49 : decode cX12_image 49 = .ok (.goto (-26), 3) := by decide +kernel
theorem dX12_image_52 : decode cX12_image 52 = .ok (.aload_n 0, 1) := by decide +kernel
theorem dX12_image_53 : decode cX12_image 53 = .ok (.getfield 45, 3) := by decide +kernel
theorem dX12_image_56 : decode cX12_image 56 = .ok (.bipush 18, 2) := by decide +kernel
theorem dX12_image_58 : decode cX12_image 58 = .ok (.iaload, 1) := by decide +kernel
theorem dX12_image_59 : decode cX12_image 59 = .ok (.aload_n 0, 1) := by decide +kernel
theorem dX12_image_60 : decode cX12_image 60 = .ok (.getfield 45, 3) := by decide +kernel
theorem dX12_image_63 : decode cX12_image 63 = .ok (.bipush 19, 2) := by decide +kernel
theorem dX12_image_65 : decode cX12_image 65 = .ok (.iaload, 1) := by decide +kernel
theorem dX12_image_66 : decode cX12_image 66 = .ok (.iadd, 1) := by decide +kernel
theorem dX12_image_67 : decode cX12_image 67 = .ok (.ireturn, 1) := by decide +kernel
set_option maxRecDepth 20000 in
theorem ggX12_back_X12_in : GoodIn wsX12_back wsX12_in := goodIn_r _ [8] (by decide +kernel) (by decide +kernel)
set_option maxRecDepth 20000 in
theorem gX12_back_X12_in : GoodIn wsX12_back (va_wsS RX12 115 yX12_in wsX12_in) := goodIn_app (goodIn_of _ (by decide +kernel)) ggX12_back_X12_in
theorem dX12_back_0 : decode cX12_back 0 = .ok (.iload_n 1, 1) := by decide +kernel
theorem dX12_back_1 : decode cX12_back 1 = .ok (.i2l, 1) := by decide +kernel
theorem dX12_back_2 : decode cX12_back 2 = .ok (.lconst 0, 1) := by decide +kernel
theorem dX12_back_3 : decode cX12_back 3 = .ok (.ldc2_w 319, 3) := by decide +kernel
theorem dX12_back_6 : decode cX12_back 6 = .ok (.invokestatic 115, 3) := by decide +kernel
theorem dX12_back_9 : decode cX12_back 9 = .ok (.ifCond .eq 12, 3) := by decide +kernel
theorem dX12_back_12 : decode cX12_back 12 = .ok (.aload_n 0, 1) := by decide +kernel
theorem dX12_back_13 : decode cX12_back 13 = .ok (.getfield 72, 3) := by decide +kernel
theorem dX12_back_16 : decode cX12_back 16 = .ok (.iload_n 1, 1) := by decide +kernel
theorem dX12_back_17 : decode cX12_back 17 = .ok (.baload, 1) := by decide +kernel
theorem dX12_back_18 : decode cX12_back 18 = .ok (.ifCond .ne 5, 3) := by decide +kernel
theorem dX12_back_21 : decode cX12_back 21 = .ok (.iconst (-1), 1) := by decide +kernel
theorem dX12_back_22 : decode cX12_back 22 = .ok (.ireturn, 1) := by decide +kernel
theorem dX12_back_23 : decode cX12_back 23 = .ok (.iconst 0, 1) := by decide +kernel
theorem dX12_back_24 : decode cX12_back 24 = .ok (.istore_n 2, 1) := by decide +kernel
theorem dX12_back_25 : decode cX12_back 25 = .ok (.iload_n 2, 1) := by decide +kernel
theorem dX12_back_26 : decode cX12_back 26 = .ok (.bipush 44, 2) := by decide +kernel
theorem dX12_back_28 : decode cX12_back 28 = .ok (.if_icmp .ge 26, 3) := by decide +kernel
theorem dX12_back_31 : decode cX12_back 31 = .ok (.aload_n 0, 1) := by decide +kernel
theorem dX12_back_32 : decode cX12_back 32 = .ok (.getfield 45, 3) := by decide +kernel
theorem dX12_back_35 : decode cX12_back 35 = .ok (.iload_n 2, 1) := by decide +kernel
theorem dX12_back_36 : decode cX12_back 36 = .ok (.aload_n 0, 1) := by decide +kernel
theorem dX12_back_37 : decode cX12_back 37 = .ok (.getfield 69, 3) := by decide +kernel
theorem dX12_back_40 : decode cX12_back 40 = .ok (.bipush 44, 2) := by decide +kernel
theorem dX12_back_42 : decode cX12_back 42 = .ok (.iload_n 1, 1) := by decide +kernel
theorem dX12_back_43 : decode cX12_back 43 = .ok (.imul, 1) := by decide +kernel
theorem dX12_back_44 : decode cX12_back 44 = .ok (.iload_n 2, 1) := by decide +kernel
theorem dX12_back_45 : decode cX12_back 45 = .ok (.iadd, 1) := by decide +kernel
theorem dX12_back_46 : decode cX12_back 46 = .ok (.iaload, 1) := by decide +kernel
theorem dX12_back_47 : decode cX12_back 47 = .ok (.iastore, 1) := by decide +kernel
theorem dX12_back_48 : decode cX12_back 48 = .ok (.iinc 2 1, 3) := by decide +kernel
theorem dX12_back_51 : decode cX12_back 51 = .ok (.goto (-26), 3) := by decide +kernel
theorem dX12_back_54 : decode cX12_back 54 = .ok (.aload_n 0, 1) := by decide +kernel
theorem dX12_back_55 : decode cX12_back 55 = .ok (.getfield 45, 3) := by decide +kernel
theorem dX12_back_58 : decode cX12_back 58 = .ok (.bipush 18, 2) := by decide +kernel
theorem dX12_back_60 : decode cX12_back 60 = .ok (.iaload, 1) := by decide +kernel
theorem dX12_back_61 : decode cX12_back 61 = .ok (.aload_n 0, 1) := by decide +kernel
theorem dX12_back_62 : decode cX12_back 62 = .ok (.getfield 45, 3) := by decide +kernel
theorem dX12_back_65 : decode cX12_back 65 = .ok (.bipush 19, 2) := by decide +kernel
theorem dX12_back_67 : decode cX12_back 67 = .ok (.iaload, 1) := by decide +kernel
theorem dX12_back_68 : decode cX12_back 68 = .ok (.iadd, 1) := by decide +kernel
theorem dX12_back_69 : decode cX12_back 69 = .ok (.ireturn, 1) := by decide +kernel
theorem dJ9_max_7cf53_0 : decode cJ9_max_7cf53 0 = .ok (.iload_n 0, 1) := by decide +kernel
theorem dJ9_max_7cf53_1 : decode cJ9_max_7cf53 1 = .ok (.iload_n 1, 1) := by decide +kernel
theorem dJ9_max_7cf53_2 : decode cJ9_max_7cf53 2 = .ok (.if_icmp .lt 7, 3) := by decide +kernel
theorem dJ9_max_7cf53_5 : decode cJ9_max_7cf53 5 = .ok (.iload_n 0, 1) := by decide +kernel
theorem dJ9_max_7cf53_6 : decode cJ9_max_7cf53 6 = .ok (.goto 4, 3) := by decide +kernel
theorem dJ9_max_7cf53_9 : decode cJ9_max_7cf53 9 = .ok (.iload_n 1, 1) := by decide +kernel
theorem dJ9_max_7cf53_10 : decode cJ9_max_7cf53 10 = .ok (.ireturn, 1) := by decide +kernel
theorem dJ9_min_7cf53_0 : decode cJ9_min_7cf53 0 = .ok (.iload_n 0, 1) := by decide +kernel
theorem dJ9_min_7cf53_1 : decode cJ9_min_7cf53 1 = .ok (.iload_n 1, 1) := by decide +kernel
theorem dJ9_min_7cf53_2 : decode cJ9_min_7cf53 2 = .ok (.if_icmp .gt 7, 3) := by decide +kernel
theorem dJ9_min_7cf53_5 : decode cJ9_min_7cf53 5 = .ok (.iload_n 0, 1) := by decide +kernel
theorem dJ9_min_7cf53_6 : decode cJ9_min_7cf53 6 = .ok (.goto 4, 3) := by decide +kernel
theorem dJ9_min_7cf53_9 : decode cJ9_min_7cf53 9 = .ok (.iload_n 1, 1) := by decide +kernel
theorem dJ9_min_7cf53_10 : decode cJ9_min_7cf53 10 = .ok (.ireturn, 1) := by decide +kernel
set_option maxRecDepth 20000 in
theorem ggJ0_length_8abf5_J0_coder_7d493 : GoodIn wsJ0_length_8abf5 wsJ0_coder_7d493 := goodIn_r _ [6, 7, 8] (by decide +kernel) (by decide +kernel)
set_option maxRecDepth 20000 in
theorem gJ0_length_8abf5_J0_coder_7d493 : GoodIn wsJ0_length_8abf5 (wsV RJ0 335 RJ0 yJ0_coder_7d493 wsJ0_coder_7d493) := goodIn_app (goodIn_of _ (by decide +kernel)) ggJ0_length_8abf5_J0_coder_7d493
theorem dJ0_length_8abf5_0 : decode cJ0_length_8abf5 0 = .ok (.aload_n 0, 1) := by decide +kernel
theorem dJ0_length_8abf5_1 : decode cJ0_length_8abf5 1 = .ok (.getfield 9, 3) := by decide +kernel
theorem dJ0_length_8abf5_4 : decode cJ0_length_8abf5 4 = .ok (.arraylength, 1) := by decide +kernel
theorem dJ0_length_8abf5_5 : decode cJ0_length_8abf5 5 = .ok (.aload_n 0, 1) := by decide +kernel
theorem dJ0_length_8abf5_6 : decode cJ0_length_8abf5 6 = .ok (.invokevirtual 335, 3) := by decide +kernel
theorem dJ0_length_8abf5_9 : decode cJ0_length_8abf5 9 = .ok (.ishr, 1) := by decide +kernel
theorem dJ0_length_8abf5_10 : decode cJ0_length_8abf5 10 = .ok (.ireturn, 1) := by decide +kernel
set_option maxRecDepth 20000 in
theorem ggJ0_charAt_5068e_J0_isLatin1_aae02 : GoodIn wsJ0_charAt_5068e wsJ0_isLatin1_aae02 := goodIn_r _ [6, 7, 8] (by decide +kernel) (by decide +kernel)
set_option maxRecDepth 20000 in
theorem gJ0_charAt_5068e_J0_isLatin1_aae02 : GoodIn wsJ0_charAt_5068e (wsV RJ0 492 RJ0 yJ0_isLatin1_aae02 wsJ0_isLatin1_aae02) := goodIn_app (goodIn_of _ (by decide +kernel)) ggJ0_charAt_5068e_J0_isLatin1_aae02
set_option maxRecDepth 20000 in
theorem ggJ0_charAt_5068e_J1_charAt_3b067 : GoodIn wsJ0_charAt_5068e wsJ1_charAt_3b067 := goodIn_r _ [12, 13, 14, 5, 15, 16, 17, 18, 19, 20] (by decide +kernel) (by decide +kernel)
set_option maxRecDepth 20000 in
theorem gJ0_charAt_5068e_J1_charAt_3b067 : GoodIn wsJ0_charAt_5068e (va_wsS RJ0 495 yJ1_charAt_3b067 wsJ1_charAt_3b067) := goodIn_app (goodIn_of _ (by decide +kernel)) ggJ0_charAt_5068e_J1_charAt_3b067
set_option maxRecDepth 20000 in
theorem ggJ0_charAt_5068e_J2_charAt_3b067 : GoodIn wsJ0_charAt_5068e wsJ2_charAt_3b067 := goodIn_r _ [24, 25, 26, 23, 27, 28, 29, 30, 31, 14, 5, 15, 16, 17, 18, 19, 20, 32, 33, 34, 35, 36, 37] (by decide +kernel) (by decide +kernel)
set_option maxRecDepth 20000 in
theorem gJ0_charAt_5068e_J2_charAt_3b067 : GoodIn wsJ0_charAt_5068e (va_wsS RJ0 498 yJ2_charAt_3b067 wsJ2_charAt_3b067) := goodIn_app (goodIn_of _ (by decide +kernel)) ggJ0_charAt_5068e_J2_charAt_3b067
theorem dJ0_charAt_5068e_0 : decode cJ0_charAt_5068e 0 = .ok (.aload_n 0, 1) := by decide +kernel
theorem dJ0_charAt_5068e_1 : decode cJ0_charAt_5068e 1 = .ok (.invokevirtual 492, 3) := by decide +kernel
theorem dJ0_charAt_5068e_4 : decode cJ0_charAt_5068e 4 = .ok (.ifCond .eq 12, 3) := by decide +kernel
theorem dJ0_charAt_5068e_7 : decode cJ0_charAt_5068e 7 = .ok (.aload_n 0, 1) := by decide +kernel
theorem dJ0_charAt_5068e_8 : decode cJ0_charAt_5068e 8 = .ok (.getfield 9, 3) := by decide +kernel
theorem dJ0_charAt_5068e_11 : decode cJ0_charAt_5068e 11 = .ok (.iload_n 1, 1) := by decide +kernel
theorem dJ0_charAt_5068e_12 : decode cJ0_charAt_5068e 12 = .ok (.invokestatic 495, 3) := by decide +kernel
theorem dJ0_charAt_5068e_15 : decode cJ0_charAt_5068e 15 = .ok (.ireturn, 1) := by decide +kernel
theorem dJ0_charAt_5068e_16 : decode cJ0_charAt_5068e 16 = .ok (.aload_n 0, 1) := by decide +kernel
theorem dJ0_charAt_5068e_17 : decode cJ0_charAt_5068e 17 = .ok (.getfield 9, 3) := by decide +kernel
theorem dJ0_charAt_5068e_20 : decode cJ0_charAt_5068e 20 = .ok (.iload_n 1, 1) := by decide +kernel
theorem dJ0_charAt_5068e_21 : decode cJ0_charAt_5068e 21 = .ok (.invokestatic 498, 3) := by decide +kernel
theorem dJ0_charAt_5068e_24 : decode cJ0_charAt_5068e 24 = .ok (.ireturn, 1) := by decide +kernel
theorem dJ0_coder_7d493_0 : decode cJ0_coder_7d493 0 = .ok (.getstatic 38, 3) := by decide +kernel
theorem dJ0_coder_7d493_3 : decode cJ0_coder_7d493 3 = .ok (.ifCond .eq 10, 3) := by decide +kernel
theorem dJ0_coder_7d493_6 : decode cJ0_coder_7d493 6 = .ok (.aload_n 0, 1) := by decide +kernel
theorem dJ0_coder_7d493_7 : decode cJ0_coder_7d493 7 = .ok (.getfield 15, 3) := by decide +kernel
theorem dJ0_coder_7d493_10 : decode cJ0_coder_7d493 10 = .ok (.goto 4, 3) := by decide +kernel
theorem dJ0_coder_7d493_13 : decode cJ0_coder_7d493 13 = .ok (.iconst 1, 1) := by decide +kernel
theorem dJ0_coder_7d493_14 : decode cJ0_coder_7d493 14 = .ok (.ireturn, 1) := by decide +kernel
theorem dJ0_isLatin1_aae02_0 : decode cJ0_isLatin1_aae02 0 = .ok (.getstatic 38, 3) := by decide +kernel
theorem dJ0_isLatin1_aae02_3 : decode cJ0_isLatin1_aae02 3 = .ok (.ifCond .eq 14, 3) := by decide +kernel
theorem dJ0_isLatin1_aae02_6 : decode cJ0_isLatin1_aae02 6 = .ok (.aload_n 0, 1) := by decide +kernel
theorem dJ0_isLatin1_aae02_7 : decode cJ0_isLatin1_aae02 7 = .ok (.getfield 15, 3) := by decide +kernel
theorem dJ0_isLatin1_aae02_10 : decode cJ0_isLatin1_aae02 10 = .ok (.ifCond .ne 7, 3) := by decide +kernel
theorem dJ0_isLatin1_aae02_13 : decode cJ0_isLatin1_aae02 13 = .ok (.iconst 1, 1) := by decide +kernel
theorem dJ0_isLatin1_aae02_14 : decode cJ0_isLatin1_aae02 14 = .ok (.goto 4, 3) := by decide +kernel
theorem dJ0_isLatin1_aae02_17 : decode cJ0_isLatin1_aae02 17 = .ok (.iconst 0, 1) := by decide +kernel
theorem dJ0_isLatin1_aae02_18 : decode cJ0_isLatin1_aae02 18 = .ok (.ireturn, 1) := by decide +kernel
set_option maxRecDepth 20000 in
theorem ggJ0_checkIndex_df160_J3_checkIndex_8e157 : GoodIn wsJ0_checkIndex_df160 wsJ3_checkIndex_8e157 := goodIn_r _ [5] (by decide +kernel) (by decide +kernel)
set_option maxRecDepth 20000 in
theorem gJ0_checkIndex_df160_J3_checkIndex_8e157 : GoodIn wsJ0_checkIndex_df160 (va_wsS RJ0 1059 yJ3_checkIndex_8e157 wsJ3_checkIndex_8e157) := goodIn_app (goodIn_of _ (by decide +kernel)) ggJ0_checkIndex_df160_J3_checkIndex_8e157
theorem dJ0_checkIndex_df160_0 : decode cJ0_checkIndex_df160 0 = .ok (.iload_n 0, 1) := by decide +kernel
theorem dJ0_checkIndex_df160_1 : decode cJ0_checkIndex_df160 1 = .ok (.iload_n 1, 1) := by decide +kernel
theorem dJ0_checkIndex_df160_2 : decode cJ0_checkIndex_df160 2 = .ok (.getstatic 1053, 3) := by decide +kernel
theorem dJ0_checkIndex_df160_5 : decode cJ0_checkIndex_df160 5 = .ok (.invokestatic 1059, 3) := by decide +kernel
theorem dJ0_checkIndex_df160_8 : decode cJ0_checkIndex_df160 8 = .ok (.pop, 1) := by decide +kernel
theorem dJ0_checkIndex_df160_9 : decode cJ0_checkIndex_df160 9 = .ok (.return_, 1) := by decide +kernel
set_option maxRecDepth 20000 in
theorem ggJ1_charAt_3b067_J0_checkIndex_df160 : GoodIn wsJ1_charAt_3b067 wsJ0_checkIndex_df160 := goodIn_r _ [4, 5, 6, 7, 8, 9] (by decide +kernel) (by decide +kernel)
set_option maxRecDepth 20000 in
theorem gJ1_charAt_3b067_J0_checkIndex_df160 : GoodIn wsJ1_charAt_3b067 (va_wsS RJ1 9 yJ0_checkIndex_df160 wsJ0_checkIndex_df160) := goodIn_app (goodIn_of _ (by decide +kernel)) ggJ1_charAt_3b067_J0_checkIndex_df160
theorem dJ1_charAt_3b067_0 : decode cJ1_charAt_3b067 0 = .ok (.iload_n 1, 1) := by decide +kernel
theorem dJ1_charAt_3b067_1 : decode cJ1_charAt_3b067 1 = .ok (.aload_n 0, 1) := by decide +kernel
theorem dJ1_charAt_3b067_2 : decode cJ1_charAt_3b067 2 = .ok (.arraylength, 1) := by decide +kernel
theorem dJ1_charAt_3b067_3 : decode cJ1_charAt_3b067 3 = .ok (.invokestatic 9, 3) := by decide +kernel
theorem dJ1_charAt_3b067_6 : decode cJ1_charAt_3b067 6 = .ok (.aload_n 0, 1) := by decide +kernel
theorem dJ1_charAt_3b067_7 : decode cJ1_charAt_3b067 7 = .ok (.iload_n 1, 1) := by decide +kernel
theorem dJ1_charAt_3b067_8 : decode cJ1_charAt_3b067 8 = .ok (.baload, 1) := by decide +kernel
theorem dJ1_charAt_3b067_9 : decode cJ1_charAt_3b067 9 = .ok (.sipush 255, 3) := by decide +kernel
theorem dJ1_charAt_3b067_12 : decode cJ1_charAt_3b067 12 = .ok (.iand, 1) := by decide +kernel
theorem dJ1_charAt_3b067_13 : decode cJ1_charAt_3b067 13 = .ok (.i2c, 1) := by decide +kernel
theorem dJ1_charAt_3b067_14 : decode cJ1_charAt_3b067 14 = .ok (.ireturn, 1) := by decide +kernel
set_option maxRecDepth 20000 in
theorem ggJ2_getChar_3b067_J2_length_9d52b : GoodIn wsJ2_getChar_3b067 wsJ2_length_9d52b := goodIn_r _ [7] (by decide +kernel) (by decide +kernel)
set_option maxRecDepth 20000 in
theorem gJ2_getChar_3b067_J2_length_9d52b : GoodIn wsJ2_getChar_3b067 (va_wsS RJ2 48 yJ2_length_9d52b wsJ2_length_9d52b) := goodIn_app (goodIn_of _ (by decide +kernel)) ggJ2_getChar_3b067_J2_length_9d52b
theorem dJ2_getChar_3b067_0 : decode cJ2_getChar_3b067 0 = .ok (.getstatic 44, 3) := by decide +kernel
theorem dJ2_getChar_3b067_3 : decode cJ2_getChar_3b067 3 = .ok (.ifCond .ne 25, 3) := by decide +kernel
theorem dJ2_getChar_3b067_6 : decode cJ2_getChar_3b067 6 = .ok (.iload_n 1, 1) := by decide +kernel
theorem dJ2_getChar_3b067_7 : decode cJ2_getChar_3b067 7 = .ok (.ifCond .lt 11, 3) := by decide +kernel
theorem dJ2_getChar_3b067_10 : decode cJ2_getChar_3b067 10 = .ok (.iload_n 1, 1) := by decide +kernel
theorem dJ2_getChar_3b067_11 : decode cJ2_getChar_3b067 11 = .ok (.aload_n 0, 1) := by decide +kernel
theorem dJ2_getChar_3b067_12 : decode cJ2_getChar_3b067 12 = .ok (.invokestatic 48, 3) := by decide +kernel
theorem dJ2_getChar_3b067_15 : decode cJ2_getChar_3b067 15 = .ok (.if_icmp .lt 13, 3) := by decide +kernel
theorem dJ2_getChar_3b067_18 : decode cJ2_getChar_3b067 18 = .ok (.new 52, 3) := by decide +kernel
theorem dJ2_getChar_3b067_21 : decode cJ2_getChar_3b067 21 = .ok (.dup, 1) := by decide +kernel
theorem dJ2_getChar_3b067_22 : decode cJ2_getChar_3b067 22 = .ok (.ldc 54, 2) := by decide +kernel
theorem dJ2_getChar_3b067_24 : decode cJ2_getChar_3b067 24 = .ok (.invokespecial 56, 3) := by decide +kernel
theorem dJ2_getChar_3b067_27 : decode cJ2_getChar_3b067 27 = .ok (.athrow, 1) := by decide +kernel
theorem dJ2_getChar_3b067_28 : decode cJ2_getChar_3b067 28 = .ok (.iload_n 1, 1) := by decide +kernel
theorem dJ2_getChar_3b067_29 : decode cJ2_getChar_3b067 29 = .ok (.iconst 1, 1) := by decide +kernel
theorem dJ2_getChar_3b067_30 : decode cJ2_getChar_3b067 30 = .ok (.ishl, 1) := by decide +kernel
theorem dJ2_getChar_3b067_31 : decode cJ2_getChar_3b067 31 = .ok (.istore_n 1, 1) := by decide +kernel
theorem dJ2_getChar_3b067_32 : decode cJ2_getChar_3b067 32 = .ok (.aload_n 0, 1) := by decide +kernel
theorem dJ2_getChar_3b067_33 : decode cJ2_getChar_3b067 33 = .ok (.iload_n 1, 1) := by decide +kernel
theorem dJ2_getChar_3b067_34 : decode cJ2_getChar_3b067 34 = .ok (.iinc 1 1, 3) := by decide +kernel
theorem dJ2_getChar_3b067_37 : decode cJ2_getChar_3b067 37 = .ok (.baload, 1) := by decide +kernel
theorem dJ2_getChar_3b067_38 : decode cJ2_getChar_3b067 38 = .ok (.sipush 255, 3) := by decide +kernel
theorem dJ2_getChar_3b067_41 : decode cJ2_getChar_3b067 41 = .ok (.iand, 1) := by decide +kernel
theorem dJ2_getChar_3b067_42 : decode cJ2_getChar_3b067 42 = .ok (.getstatic 59, 3) := by decide +kernel
theorem dJ2_getChar_3b067_45 : decode cJ2_getChar_3b067 45 = .ok (.ishl, 1) := by decide +kernel
theorem dJ2_getChar_3b067_46 : decode cJ2_getChar_3b067 46 = .ok (.aload_n 0, 1) := by decide +kernel
theorem dJ2_getChar_3b067_47 : decode cJ2_getChar_3b067 47 = .ok (.iload_n 1, 1) := by decide +kernel
theorem dJ2_getChar_3b067_48 : decode cJ2_getChar_3b067 48 = .ok (.baload, 1) := by decide +kernel
theorem dJ2_getChar_3b067_49 : decode cJ2_getChar_3b067 49 = .ok (.sipush 255, 3) := by decide +kernel
theorem dJ2_getChar_3b067_52 : decode cJ2_getChar_3b067 52 = .ok (.iand, 1) := by decide +kernel
theorem dJ2_getChar_3b067_53 : decode cJ2_getChar_3b067 53 = .ok (.getstatic 63, 3) := by decide +kernel
theorem dJ2_getChar_3b067_56 : decode cJ2_getChar_3b067 56 = .ok (.ishl, 1) := by decide +kernel
theorem dJ2_getChar_3b067_57 : decode cJ2_getChar_3b067 57 = .ok (.ior, 1) := by decide +kernel
theorem dJ2_getChar_3b067_58 : decode cJ2_getChar_3b067 58 = .ok (.i2c, 1) := by decide +kernel
theorem dJ2_getChar_3b067_59 : decode cJ2_getChar_3b067 59 = .ok (.ireturn, 1) := by decide +kernel
theorem dJ2_length_9d52b_0 : decode cJ2_length_9d52b 0 = .ok (.aload_n 0, 1) := by decide +kernel
theorem dJ2_length_9d52b_1 : decode cJ2_length_9d52b 1 = .ok (.arraylength, 1) := by decide +kernel
theorem dJ2_length_9d52b_2 : decode cJ2_length_9d52b 2 = .ok (.iconst 1, 1) := by decide +kernel
theorem dJ2_length_9d52b_3 : decode cJ2_length_9d52b 3 = .ok (.ishr, 1) := by decide +kernel
theorem dJ2_length_9d52b_4 : decode cJ2_length_9d52b 4 = .ok (.ireturn, 1) := by decide +kernel
set_option maxRecDepth 20000 in
theorem ggJ2_charAt_3b067_J2_checkIndex_2214a : GoodIn wsJ2_charAt_3b067 wsJ2_checkIndex_2214a := goodIn_r _ [4, 5, 6, 3, 7, 8, 9, 10, 11, 12, 13, 14, 15, 16] (by decide +kernel) (by decide +kernel)
set_option maxRecDepth 20000 in
theorem gJ2_charAt_3b067_J2_checkIndex_2214a : GoodIn wsJ2_charAt_3b067 (va_wsS RJ2 67 yJ2_checkIndex_2214a wsJ2_checkIndex_2214a) := goodIn_app (goodIn_of _ (by decide +kernel)) ggJ2_charAt_3b067_J2_checkIndex_2214a
set_option maxRecDepth 20000 in
theorem ggJ2_charAt_3b067_J2_getChar_3b067 : GoodIn wsJ2_charAt_3b067 wsJ2_getChar_3b067 := goodIn_r _ [19, 20, 21, 22, 5, 6, 3, 7] (by decide +kernel) (by decide +kernel)
set_option maxRecDepth 20000 in
theorem gJ2_charAt_3b067_J2_getChar_3b067 : GoodIn wsJ2_charAt_3b067 (va_wsS RJ2 71 yJ2_getChar_3b067 wsJ2_getChar_3b067) := goodIn_app (goodIn_of _ (by decide +kernel)) ggJ2_charAt_3b067_J2_getChar_3b067
theorem dJ2_charAt_3b067_0 : decode cJ2_charAt_3b067 0 = .ok (.iload_n 1, 1) := by decide +kernel
theorem dJ2_charAt_3b067_1 : decode cJ2_charAt_3b067 1 = .ok (.aload_n 0, 1) := by decide +kernel
theorem dJ2_charAt_3b067_2 : decode cJ2_charAt_3b067 2 = .ok (.invokestatic 67, 3) := by decide +kernel
theorem dJ2_charAt_3b067_5 : decode cJ2_charAt_3b067 5 = .ok (.aload_n 0, 1) := by decide +kernel
theorem dJ2_charAt_3b067_6 : decode cJ2_charAt_3b067 6 = .ok (.iload_n 1, 1) := by decide +kernel
theorem dJ2_charAt_3b067_7 : decode cJ2_charAt_3b067 7 = .ok (.invokestatic 71, 3) := by decide +kernel
theorem dJ2_charAt_3b067_10 : decode cJ2_charAt_3b067 10 = .ok (.ireturn, 1) := by decide +kernel
set_option maxRecDepth 20000 in
theorem ggJ2_checkIndex_2214a_J2_length_9d52b : GoodIn wsJ2_checkIndex_2214a wsJ2_length_9d52b := goodIn_r _ [4] (by decide +kernel) (by decide +kernel)
set_option maxRecDepth 20000 in
theorem gJ2_checkIndex_2214a_J2_length_9d52b : GoodIn wsJ2_checkIndex_2214a (va_wsS RJ2 48 yJ2_length_9d52b wsJ2_length_9d52b) := goodIn_app (goodIn_of _ (by decide +kernel)) ggJ2_checkIndex_2214a_J2_length_9d52b
set_option maxRecDepth 20000 in
theorem ggJ2_checkIndex_2214a_J0_checkIndex_df160 : GoodIn wsJ2_checkIndex_2214a wsJ0_checkIndex_df160 := goodIn_r _ [8, 9, 10, 11, 12, 13] (by decide +kernel) (by decide +kernel)
set_option maxRecDepth 20000 in
theorem gJ2_checkIndex_2214a_J0_checkIndex_df160 : GoodIn wsJ2_checkIndex_2214a (va_wsS RJ2 414 yJ0_checkIndex_df160 wsJ0_checkIndex_df160) := goodIn_app (goodIn_of _ (by decide +kernel)) ggJ2_checkIndex_2214a_J0_checkIndex_df160
theorem dJ2_checkIndex_2214a_0 : decode cJ2_checkIndex_2214a 0 = .ok (.iload_n 0, 1) := by decide +kernel
theorem dJ2_checkIndex_2214a_1 : decode cJ2_checkIndex_2214a 1 = .ok (.aload_n 1, 1) := by decide +kernel
theorem dJ2_checkIndex_2214a_2 : decode cJ2_checkIndex_2214a 2 = .ok (.invokestatic 48, 3) := by decide +kernel
theorem dJ2_checkIndex_2214a_5 : decode cJ2_checkIndex_2214a 5 = .ok (.invokestatic 414, 3) := by decide +kernel
theorem dJ2_checkIndex_2214a_8 : decode cJ2_checkIndex_2214a 8 = .ok (.return_, 1) := by decide +kernel
theorem dJ7_fill_53178_0 : decode cJ7_fill_53178 0 = .ok (.iconst 0, 1) := by decide +kernel
theorem dJ7_fill_53178_1 : decode cJ7_fill_53178 1 = .ok (.istore_n 2, 1) := by decide +kernel
theorem dJ7_fill_53178_2 : decode cJ7_fill_53178 2 = .ok (.aload_n 0, 1) := by decide +kernel
theorem dJ7_fill_53178_3 : decode cJ7_fill_53178 3 = .ok (.arraylength, 1) := by decide +kernel
theorem dJ7_fill_53178_4 : decode cJ7_fill_53178 4 = .ok (.istore_n 3, 1) := by decide +kernel
theorem dJ7_fill_53178_5 : decode cJ7_fill_53178 5 = .ok (.iload_n 2, 1) := by decide +kernel
theorem dJ7_fill_53178_6 : decode cJ7_fill_53178 6 = .ok (.iload_n 3, 1) := by decide +kernel
theorem dJ7_fill_53178_7 : decode cJ7_fill_53178 7 = .ok (.if_icmp .ge 13, 3) := by decide +kernel
theorem dJ7_fill_53178_10 : decode cJ7_fill_53178 10 = .ok (.aload_n 0, 1) := by decide +kernel
theorem dJ7_fill_53178_11 : decode cJ7_fill_53178 11 = .ok (.iload_n 2, 1) := by decide +kernel
theorem dJ7_fill_53178_12 : decode cJ7_fill_53178 12 = .ok (.iload_n 1, 1) := by decide +kernel
theorem dJ7_fill_53178_13 : decode cJ7_fill_53178 13 = .ok (.iastore, 1) := by decide +kernel
theorem dJ7_fill_53178_14 : decode cJ7_fill_53178 14 = .ok (.iinc 2 1, 3) := by decide +kernel
theorem dJ7_fill_53178_17 : decode cJ7_fill_53178 17 = .ok (.goto (-12), 3) := by decide +kernel
theorem dJ7_fill_53178_20 : decode cJ7_fill_53178 20 = .ok (.return_, 1) := by decide +kernel
theorem dJ3_checkIndex_8e157_0 : decode cJ3_checkIndex_8e157 0 = .ok (.iload_n 0, 1) := by decide +kernel
theorem dJ3_checkIndex_8e157_1 : decode cJ3_checkIndex_8e157 1 = .ok (.ifCond .lt 8, 3) := by decide +kernel
theorem dJ3_checkIndex_8e157_4 : decode cJ3_checkIndex_8e157 4 = .ok (.iload_n 0, 1) := by decide +kernel
theorem dJ3_checkIndex_8e157_5 : decode cJ3_checkIndex_8e157 5 = .ok (.iload_n 1, 1) := by decide +kernel
theorem dJ3_checkIndex_8e157_6 : decode cJ3_checkIndex_8e157 6 = .ok (.if_icmp .lt 10, 3) := by decide +kernel
theorem dJ3_checkIndex_8e157_9 : decode cJ3_checkIndex_8e157 9 = .ok (.aload_n 2, 1) := by decide +kernel
theorem dJ3_checkIndex_8e157_10 : decode cJ3_checkIndex_8e157 10 = .ok (.iload_n 0, 1) := by decide +kernel
theorem dJ3_checkIndex_8e157_11 : decode cJ3_checkIndex_8e157 11 = .ok (.iload_n 1, 1) := by decide +kernel
theorem dJ3_checkIndex_8e157_12 : decode cJ3_checkIndex_8e157 12 = .ok (.invokestatic 95, 3) := by decide +kernel
theorem dJ3_checkIndex_8e157_15 : decode cJ3_checkIndex_8e157 15 = .ok (.athrow, 1) := by decide +kernel
theorem dJ3_checkIndex_8e157_16 : decode cJ3_checkIndex_8e157 16 = .ok (.iload_n 0, 1) := by decide +kernel
theorem dJ3_checkIndex_8e157_17 : decode cJ3_checkIndex_8e157 17 = .ok (.ireturn, 1) := by decide +kernel
