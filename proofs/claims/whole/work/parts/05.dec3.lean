theorem dX9_readFact_0 : decode cX9_readFact 0 = .ok (.aload_n 0, 1) := by decide +kernel
theorem dX9_readFact_1 : decode cX9_readFact 1 = .ok (.getfield 9, 3) := by decide +kernel
theorem dX9_readFact_4 : decode cX9_readFact 4 = .ok (.ldc 71, 2) := by decide +kernel
theorem dX9_readFact_6 : decode cX9_readFact 6 = .ok (.invokevirtual 43, 3) := by decide +kernel
theorem dX9_readFact_9 : decode cX9_readFact 9 = .ok (.ifCond .ne 7, 3) := by decide +kernel
theorem dX9_readFact_12 : decode cX9_readFact 12 = .ok (.iconst 1, 1) := by decide +kernel
theorem dX9_readFact_13 : decode cX9_readFact 13 = .ok (.goto 4, 3) := by decide +kernel
theorem dX9_readFact_16 : decode cX9_readFact 16 = .ok (.iconst 0, 1) := by decide +kernel
theorem dX9_readFact_17 : decode cX9_readFact 17 = .ok (.istore_n 2, 1) := by decide +kernel
theorem dX9_readFact_18 : decode cX9_readFact 18 = .ok (.iload_n 2, 1) := by decide +kernel
theorem dX9_readFact_19 : decode cX9_readFact 19 = .ok (.ifCond .ne 15, 3) := by decide +kernel
theorem dX9_readFact_22 : decode cX9_readFact 22 = .ok (.aload_n 0, 1) := by decide +kernel
theorem dX9_readFact_23 : decode cX9_readFact 23 = .ok (.getfield 9, 3) := by decide +kernel
theorem dX9_readFact_26 : decode cX9_readFact 26 = .ok (.bipush 91, 2) := by decide +kernel
theorem dX9_readFact_28 : decode cX9_readFact 28 = .ok (.invokevirtual 73, 3) := by decide +kernel
theorem dX9_readFact_31 : decode cX9_readFact 31 = .ok (.ifCond .eq 10, 3) := by decide +kernel
theorem dX9_readFact_34 : decode cX9_readFact 34 = .ok (.aload_n 0, 1) := by decide +kernel
theorem dX9_readFact_35 : decode cX9_readFact 35 = .ok (.iload_n 1, 1) := by decide +kernel
theorem dX9_readFact_36 : decode cX9_readFact 36 = .ok (.iload_n 2, 1) := by decide +kernel
theorem dX9_readFact_37 : decode cX9_readFact 37 = .ok (.invokevirtual 77, 3) := by decide +kernel
theorem dX9_readFact_40 : decode cX9_readFact 40 = .ok (.return_, 1) := by decide +kernel
theorem dX9_readFact_41 : decode cX9_readFact 41 = .ok (.aload_n 0, 1) := by decide +kernel
theorem dX9_readFact_42 : decode cX9_readFact 42 = .ok (.invokevirtual 81, 3) := by decide +kernel
theorem dX9_readFact_45 : decode cX9_readFact 45 = .ok (.aload_n 0, 1) := by decide +kernel
theorem dX9_readFact_46 : decode cX9_readFact 46 = .ok (.invokevirtual 84, 3) := by decide +kernel
theorem dX9_readFact_49 : decode cX9_readFact 49 = .ok (.istore_n 3, 1) := by decide +kernel
theorem dX9_readFact_50 : decode cX9_readFact 50 = .ok (.iload_n 3, 1) := by decide +kernel
theorem dX9_readFact_51 : decode cX9_readFact 51 = .ok (.bipush (-100), 2) := by decide +kernel
theorem dX9_readFact_53 : decode cX9_readFact 53 = .ok (.if_icmp .ne 14, 3) := by decide +kernel
theorem dX9_readFact_56 : decode cX9_readFact 56 = .ok (.aload_n 0, 1) := by decide +kernel
theorem dX9_readFact_57 : decode cX9_readFact 57 = .ok (.getfield 9, 3) := by decide +kernel
theorem dX9_readFact_60 : decode cX9_readFact 60 = .ok (.iconst 0, 1) := by decide +kernel
theorem dX9_readFact_61 : decode cX9_readFact 61 = .ok (.invokevirtual 47, 3) := by decide +kernel
theorem dX9_readFact_64 : decode cX9_readFact 64 = .ok (.goto 29, 3) := by decide +kernel
theorem dX9_readFact_67 : decode cX9_readFact 67 = .ok (.aload_n 0, 1) := by decide +kernel
theorem dX9_readFact_68 : decode cX9_readFact 68 = .ok (.invokevirtual 88, 3) := by decide +kernel
theorem dX9_readFact_71 : decode cX9_readFact 71 = .ok (.ifCond .eq 22, 3) := by decide +kernel
theorem dX9_readFact_74 : decode cX9_readFact 74 = .ok (.aload_n 0, 1) := by decide +kernel
theorem dX9_readFact_75 : decode cX9_readFact 75 = .ok (.getfield 9, 3) := by decide +kernel
theorem dX9_readFact_78 : decode cX9_readFact 78 = .ok (.invokevirtual 24, 3) := by decide +kernel
theorem dX9_readFact_81 : decode cX9_readFact 81 = .ok (.aload_n 0, 1) := by decide +kernel
theorem dX9_readFact_82 : decode cX9_readFact 82 = .ok (.invokevirtual 81, 3) := by decide +kernel
theorem dX9_readFact_85 : decode cX9_readFact 85 = .ok (.aload_n 0, 1) := by decide +kernel
theorem dX9_readFact_86 : decode cX9_readFact 86 = .ok (.getfield 15, 3) := by decide +kernel
theorem dX9_readFact_89 : decode cX9_readFact 89 = .ok (.iload_n 3, 1) := by decide +kernel
theorem dX9_readFact_90 : decode cX9_readFact 90 = .ok (.invokevirtual 66, 3) := by decide +kernel
theorem dX9_readFact_93 : decode cX9_readFact 93 = .ok (.return_, 1) := by decide +kernel
set_option maxRecDepth 20000 in
theorem ggX9_readNested_X7_fail : GoodIn wsX9_readNested wsX7_fail := goodIn_r _ [7, 8, 9, 142, 143, 144, 145, 146, 147, 148, 149] (by decide +kernel) (by decide +kernel)
set_option maxRecDepth 20000 in
theorem gX9_readNested_X7_fail : GoodIn wsX9_readNested (wsV RX9 47 RX7 yX7_fail wsX7_fail) := goodIn_app (goodIn_of _ (by decide +kernel)) ggX9_readNested_X7_fail
set_option maxRecDepth 20000 in
theorem ggX9_readNested_X7_advance : GoodIn wsX9_readNested wsX7_advance := goodIn_r _ [13, 14, 9, 15, 16, 17, 18, 19, 6, 20, 21, 22, 23, 24, 25, 26, 27, 28, 29, 30, 31, 32, 33, 34, 35, 36, 37, 142, 143, 144, 145, 146, 147, 148, 149] (by decide +kernel) (by decide +kernel)
set_option maxRecDepth 20000 in
theorem gX9_readNested_X7_advance : GoodIn wsX9_readNested (wsV RX9 24 RX7 yX7_advance wsX7_advance) := goodIn_app (goodIn_of _ (by decide +kernel)) ggX9_readNested_X7_advance
set_option maxRecDepth 20000 in
theorem ggX9_readNested_X9_readFact : GoodIn wsX9_readNested wsX9_readFact := goodIn_r _ [56, 1, 2, 57, 58, 59, 6, 60, 17, 14, 9, 16, 61, 62, 63, 64, 65, 66, 67, 68, 69, 70, 71, 72, 73, 74, 75, 76, 77, 78, 79, 80, 81, 82, 83, 84, 85, 86, 87, 88, 89, 90, 91, 92, 93, 94, 95, 96, 97, 98, 99, 100, 101, 102, 103, 104, 105, 106, 107, 108, 109, 52, 53, 54, 55, 37, 110, 111, 112, 41, 113, 114, 115, 116, 117, 118, 119, 120, 121, 122, 123, 3, 4, 5, 7, 8, 124, 125, 126, 127, 128, 42, 43, 44, 45, 46, 47, 48, 10, 11, 12, 13, 15, 18, 19, 20, 21, 22, 23, 24, 25, 26, 27, 28, 29, 30, 31, 32, 33, 34, 35, 36, 129, 130, 131, 132, 133, 134, 135, 136, 137, 0, 38, 39, 40, 49, 50, 51, 138, 139, 140, 141, 142, 143, 144, 145, 146, 147, 148, 149, 150, 151, 152, 153, 154, 155] (by decide +kernel) (by decide +kernel)
set_option maxRecDepth 20000 in
theorem gX9_readNested_X9_readFact : GoodIn wsX9_readNested (wsV RX9 63 RX9 yX9_readFact wsX9_readFact) := goodIn_app (goodIn_of _ (by decide +kernel)) ggX9_readNested_X9_readFact
set_option maxRecDepth 20000 in
theorem ggX9_readNested_X8_put : GoodIn wsX9_readNested wsX8_put := goodIn_r _ [46, 47, 48, 150, 151, 152, 153, 154, 155] (by decide +kernel) (by decide +kernel)
set_option maxRecDepth 20000 in
theorem gX9_readNested_X8_put : GoodIn wsX9_readNested (wsV RX9 66 RX8 yX8_put wsX8_put) := goodIn_app (goodIn_of _ (by decide +kernel)) ggX9_readNested_X8_put
set_option maxRecDepth 20000 in
theorem ggX9_readNested_X9_readTest : GoodIn wsX9_readNested wsX9_readTest := goodIn_r _ [138, 1, 117, 2, 38, 39, 40, 41, 42, 43, 44, 45, 46, 47, 48, 57, 58, 59, 6, 60, 17, 14, 9, 16, 61, 62, 63, 64, 65, 66, 67, 68, 69, 70, 71, 72, 73, 74, 75, 76, 77, 78, 79, 80, 81, 82, 83, 84, 85, 86, 87, 88, 89, 90, 91, 92, 93, 94, 95, 96, 97, 98, 99, 100, 101, 102, 103, 104, 105, 106, 107, 108, 109, 10, 11, 12, 13, 15, 18, 19, 20, 21, 22, 23, 24, 25, 26, 27, 28, 29, 30, 31, 32, 33, 34, 35, 36, 37, 56, 52, 53, 54, 55, 110, 111, 112, 113, 114, 115, 116, 118, 119, 120, 121, 122, 123, 3, 4, 5, 7, 8, 124, 125, 126, 127, 128, 129, 130, 131, 132, 133, 134, 135, 136, 137, 0, 49, 50, 51, 139, 140, 141, 142, 143, 144, 145, 146, 147, 148, 149, 150, 151, 152, 153, 154, 155] (by decide +kernel) (by decide +kernel)
set_option maxRecDepth 20000 in
theorem gX9_readNested_X9_readTest : GoodIn wsX9_readNested (wsV RX9 57 RX9 yX9_readTest wsX9_readTest) := goodIn_app (goodIn_of _ (by decide +kernel)) ggX9_readNested_X9_readTest
set_option maxRecDepth 20000 in
theorem ggX9_readNested_X7_isSign : GoodIn wsX9_readNested wsX7_isSign := goodIn_r _ [55, 17, 37, 142, 143, 144, 145, 146, 147, 148, 149] (by decide +kernel) (by decide +kernel)
set_option maxRecDepth 20000 in
theorem gX9_readNested_X7_isSign : GoodIn wsX9_readNested (wsV RX9 73 RX7 yX7_isSign wsX7_isSign) := goodIn_app (goodIn_of _ (by decide +kernel)) ggX9_readNested_X7_isSign
theorem dX9_readNested_0 : decode cX9_readNested 0 = .ok (.iload_n 1, 1) := by decide +kernel
theorem dX9_readNested_1 : decode cX9_readNested 1 = .ok (.bipush 10, 2) := by decide +kernel
theorem dX9_readNested_3 : decode cX9_readNested 3 = .ok (.if_icmp .lt 12, 3) := by decide +kernel
theorem dX9_readNested_6 : decode cX9_readNested 6 = .ok (.aload_n 0, 1) := by decide +kernel
theorem dX9_readNested_7 : decode cX9_readNested 7 = .ok (.getfield 9, 3) := by decide +kernel
theorem dX9_readNested_10 : decode cX9_readNested 10 = .ok (.iconst 2, 1) := by decide +kernel
theorem dX9_readNested_11 : decode cX9_readNested 11 = .ok (.invokevirtual 47, 3) := by decide +kernel
theorem dX9_readNested_14 : decode cX9_readNested 14 = .ok (.return_, 1) := by decide +kernel
theorem dX9_readNested_15 : decode cX9_readNested 15 = .ok (.aload_n 0, 1) := by decide +kernel
theorem dX9_readNested_16 : decode cX9_readNested 16 = .ok (.getfield 9, 3) := by decide +kernel
theorem dX9_readNested_19 : decode cX9_readNested 19 = .ok (.invokevirtual 24, 3) := by decide +kernel
theorem dX9_readNested_22 : decode cX9_readNested 22 = .ok (.iload_n 2, 1) := by decide +kernel
theorem dX9_readNested_23 : decode cX9_readNested 23 = .ok (.ifCond .eq 20, 3) := by decide +kernel
theorem dX9_readNested_26 : decode cX9_readNested 26 = .ok (.aload_n 0, 1) := by decide +kernel
theorem dX9_readNested_27 : decode cX9_readNested 27 = .ok (.iload_n 1, 1) := by decide +kernel
theorem dX9_readNested_28 : decode cX9_readNested 28 = .ok (.iconst 1, 1) := by decide +kernel
theorem dX9_readNested_29 : decode cX9_readNested 29 = .ok (.iadd, 1) := by decide +kernel
theorem dX9_readNested_30 : decode cX9_readNested 30 = .ok (.invokevirtual 63, 3) := by decide +kernel
theorem dX9_readNested_33 : decode cX9_readNested 33 = .ok (.aload_n 0, 1) := by decide +kernel
theorem dX9_readNested_34 : decode cX9_readNested 34 = .ok (.getfield 15, 3) := by decide +kernel
theorem dX9_readNested_37 : decode cX9_readNested 37 = .ok (.bipush (-19), 2) := by decide +kernel
theorem dX9_readNested_39 : decode cX9_readNested 39 = .ok (.invokevirtual 66, 3) := by decide +kernel
theorem dX9_readNested_42 : decode cX9_readNested 42 = .ok (.return_, 1) := by decide +kernel
theorem dX9_readNested_43 : decode cX9_readNested 43 = .ok (.aload_n 0, 1) := by decide +kernel
theorem dX9_readNested_44 : decode cX9_readNested 44 = .ok (.iload_n 1, 1) := by decide +kernel
theorem dX9_readNested_45 : decode cX9_readNested 45 = .ok (.iconst 1, 1) := by decide +kernel
theorem dX9_readNested_46 : decode cX9_readNested 46 = .ok (.iadd, 1) := by decide +kernel
theorem dX9_readNested_47 : decode cX9_readNested 47 = .ok (.invokevirtual 57, 3) := by decide +kernel
theorem dX9_readNested_50 : decode cX9_readNested 50 = .ok (.aload_n 0, 1) := by decide +kernel
theorem dX9_readNested_51 : decode cX9_readNested 51 = .ok (.getfield 9, 3) := by decide +kernel
theorem dX9_readNested_54 : decode cX9_readNested 54 = .ok (.bipush 93, 2) := by decide +kernel
theorem dX9_readNested_56 : decode cX9_readNested 56 = .ok (.invokevirtual 73, 3) := by decide +kernel
theorem dX9_readNested_59 : decode cX9_readNested 59 = .ok (.ifCond .eq 13, 3) := by decide +kernel
theorem dX9_readNested_62 : decode cX9_readNested 62 = .ok (.aload_n 0, 1) := by decide +kernel
theorem dX9_readNested_63 : decode cX9_readNested 63 = .ok (.getfield 9, 3) := by decide +kernel
theorem dX9_readNested_66 : decode cX9_readNested 66 = .ok (.invokevirtual 24, 3) := by decide +kernel
theorem dX9_readNested_69 : decode cX9_readNested 69 = .ok (.goto 11, 3) := by decide +kernel
theorem dX9_readNested_72 : decode cX9_readNested 72 = .ok (.aload_n 0, 1) := by decide +kernel
theorem dX9_readNested_73 : decode cX9_readNested 73 = .ok (.getfield 9, 3) := by decide +kernel
theorem dX9_readNested_76 : decode cX9_readNested 76 = .ok (.iconst 0, 1) := by decide +kernel
theorem dX9_readNested_77 : decode cX9_readNested 77 = .ok (.invokevirtual 47, 3) := by decide +kernel
theorem dX9_readNested_80 : decode cX9_readNested 80 = .ok (.return_, 1) := by decide +kernel
theorem dX9_comparisonAhead_0 : decode cX9_comparisonAhead 0 = .ok (.aload_n 0, 1) := by decide +kernel
theorem dX9_comparisonAhead_1 : decode cX9_comparisonAhead 1 = .ok (.getfield 9, 3) := by decide +kernel
theorem dX9_comparisonAhead_4 : decode cX9_comparisonAhead 4 = .ok (.getfield 91, 3) := by decide +kernel
theorem dX9_comparisonAhead_7 : decode cX9_comparisonAhead 7 = .ok (.iconst 3, 1) := by decide +kernel
theorem dX9_comparisonAhead_8 : decode cX9_comparisonAhead 8 = .ok (.if_icmp .ne 13, 3) := by decide +kernel
theorem dX9_comparisonAhead_11 : decode cX9_comparisonAhead 11 = .ok (.aload_n 0, 1) := by decide +kernel
theorem dX9_comparisonAhead_12 : decode cX9_comparisonAhead 12 = .ok (.getfield 9, 3) := by decide +kernel
theorem dX9_comparisonAhead_15 : decode cX9_comparisonAhead 15 = .ok (.getfield 94, 3) := by decide +kernel
theorem dX9_comparisonAhead_18 : decode cX9_comparisonAhead 18 = .ok (.goto 4, 3) := by decide +kernel
theorem dX9_comparisonAhead_21 : decode cX9_comparisonAhead 21 = .ok (.iconst (-1), 1) := by decide +kernel
theorem dX9_comparisonAhead_22 : decode cX9_comparisonAhead 22 = .ok (.lookupswitch 65 #[(60, 50), (61, 56), (62, 62), (316, 53), (318, 59)], 50) := by decide +kernel
theorem dX9_comparisonAhead_72 : decode cX9_comparisonAhead 72 = .ok (.bipush (-14), 2) := by decide +kernel
theorem dX9_comparisonAhead_74 : decode cX9_comparisonAhead 74 = .ok (.ireturn, 1) := by decide +kernel
theorem dX9_comparisonAhead_75 : decode cX9_comparisonAhead 75 = .ok (.bipush (-15), 2) := by decide +kernel
theorem dX9_comparisonAhead_77 : decode cX9_comparisonAhead 77 = .ok (.ireturn, 1) := by decide +kernel
theorem dX9_comparisonAhead_78 : decode cX9_comparisonAhead 78 = .ok (.bipush (-16), 2) := by decide +kernel
theorem dX9_comparisonAhead_80 : decode cX9_comparisonAhead 80 = .ok (.ireturn, 1) := by decide +kernel
theorem dX9_comparisonAhead_81 : decode cX9_comparisonAhead 81 = .ok (.bipush (-17), 2) := by decide +kernel
theorem dX9_comparisonAhead_83 : decode cX9_comparisonAhead 83 = .ok (.ireturn, 1) := by decide +kernel
theorem dX9_comparisonAhead_84 : decode cX9_comparisonAhead 84 = .ok (.bipush (-18), 2) := by decide +kernel
theorem dX9_comparisonAhead_86 : decode cX9_comparisonAhead 86 = .ok (.ireturn, 1) := by decide +kernel
theorem dX9_comparisonAhead_87 : decode cX9_comparisonAhead 87 = .ok (.bipush (-100), 2) := by decide +kernel
theorem dX9_comparisonAhead_89 : decode cX9_comparisonAhead 89 = .ok (.ireturn, 1) := by decide +kernel
set_option maxRecDepth 20000 in
theorem ggX9_readSum_X9_valueAhead : GoodIn wsX9_readSum wsX9_valueAhead := goodIn_r _ [8, 1, 9, 10, 11, 12, 13, 14, 15, 16, 17, 18, 19, 20, 21, 22, 23, 24, 25, 26, 27, 28, 29, 30, 31, 32, 33, 34, 35, 36, 37, 38, 39, 40, 41, 42, 43, 44, 45, 46, 47, 48, 49, 50, 51, 52, 53, 54, 55, 56, 57, 58, 59, 60, 61, 62, 63, 64, 65, 66, 67, 68, 69, 70, 71, 72, 73, 74, 75, 76, 7, 77, 78, 119, 120, 121, 122, 123, 124, 125, 126, 127, 128, 129] (by decide +kernel) (by decide +kernel)
set_option maxRecDepth 20000 in
theorem gX9_readSum_X9_valueAhead : GoodIn wsX9_readSum (wsV RX9 97 RX9 yX9_valueAhead wsX9_valueAhead) := goodIn_app (goodIn_of _ (by decide +kernel)) ggX9_readSum_X9_valueAhead
set_option maxRecDepth 20000 in
theorem ggX9_readSum_X8_put : GoodIn wsX9_readSum wsX8_put := goodIn_r _ [83, 84, 85, 130, 131, 132, 133, 134, 135] (by decide +kernel) (by decide +kernel)
set_option maxRecDepth 20000 in
theorem gX9_readSum_X8_put : GoodIn wsX9_readSum (wsV RX9 66 RX8 yX8_put wsX8_put) := goodIn_app (goodIn_of _ (by decide +kernel)) ggX9_readSum_X8_put
set_option maxRecDepth 20000 in
theorem ggX9_readSum_X7_advance : GoodIn wsX9_readSum wsX7_advance := goodIn_r _ [89, 17, 18, 90, 19, 16, 91, 92, 14, 93, 94, 95, 96, 97, 98, 99, 100, 101, 102, 103, 104, 105, 106, 107, 108, 109, 110, 122, 123, 124, 125, 126, 127, 128, 129] (by decide +kernel) (by decide +kernel)
set_option maxRecDepth 20000 in
theorem gX9_readSum_X7_advance : GoodIn wsX9_readSum (wsV RX9 24 RX7 yX7_advance wsX7_advance) := goodIn_app (goodIn_of _ (by decide +kernel)) ggX9_readSum_X7_advance
set_option maxRecDepth 20000 in
theorem ggX9_readSum_X9_codeOfSign : GoodIn wsX9_readSum wsX9_codeOfSign := goodIn_r _ [114, 1, 115, 116, 117, 14, 118, 16, 110, 119, 120, 121, 122, 123, 124, 125, 126, 127, 128, 129] (by decide +kernel) (by decide +kernel)
set_option maxRecDepth 20000 in
theorem gX9_readSum_X9_codeOfSign : GoodIn wsX9_readSum (wsV RX9 100 RX9 yX9_codeOfSign wsX9_codeOfSign) := goodIn_app (goodIn_of _ (by decide +kernel)) ggX9_readSum_X9_codeOfSign
theorem dX9_readSum_0 : decode cX9_readSum 0 = .ok (.bipush (-100), 2) := by decide +kernel
theorem dX9_readSum_2 : decode cX9_readSum 2 = .ok (.istore_n 1, 1) := by decide +kernel
theorem dX9_readSum_3 : decode cX9_readSum 3 = .ok (.bipush (-100), 2) := by decide +kernel
theorem dX9_readSum_5 : decode cX9_readSum 5 = .ok (.istore_n 2, 1) := by decide +kernel
theorem dX9_readSum_6 : decode cX9_readSum 6 = .ok (.iconst 0, 1) := by decide +kernel
theorem dX9_readSum_7 : decode cX9_readSum 7 = .ok (.istore_n 3, 1) := by decide +kernel
theorem dX9_readSum_8 : decode cX9_readSum 8 = .ok (.iload_n 3, 1) := by decide +kernel
theorem dX9_readSum_9 : decode cX9_readSum 9 = .ok (.sipush 400, 3) := by decide +kernel
theorem dX9_readSum_12 : decode cX9_readSum 12 = .ok (.if_icmp .ge 117, 3) := by decide +kernel
theorem dX9_readSum_15 : decode cX9_readSum 15 = .ok (.aload_n 0, 1) := by decide +kernel
theorem dX9_readSum_16 : decode cX9_readSum 16 = .ok (.getfield 9, 3) := by decide +kernel
theorem dX9_readSum_19 : decode cX9_readSum 19 = .ok (.getfield 37, 3) := by decide +kernel
theorem dX9_readSum_22 : decode cX9_readSum 22 = .ok (.ifCond .ne 107, 3) := by decide +kernel
theorem dX9_readSum_25 : decode cX9_readSum 25 = .ok (.aload_n 0, 1) := by decide +kernel
theorem dX9_readSum_26 : decode cX9_readSum 26 = .ok (.getfield 15, 3) := by decide +kernel
theorem dX9_readSum_29 : decode cX9_readSum 29 = .ok (.aload_n 0, 1) := by decide +kernel
theorem dX9_readSum_30 : decode cX9_readSum 30 = .ok (.invokevirtual 97, 3) := by decide +kernel
theorem dX9_readSum_33 : decode cX9_readSum 33 = .ok (.invokevirtual 66, 3) := by decide +kernel
theorem dX9_readSum_36 : decode cX9_readSum 36 = .ok (.aload_n 0, 1) := by decide +kernel
theorem dX9_readSum_37 : decode cX9_readSum 37 = .ok (.getfield 9, 3) := by decide +kernel
theorem dX9_readSum_40 : decode cX9_readSum 40 = .ok (.invokevirtual 24, 3) := by decide +kernel
theorem dX9_readSum_43 : decode cX9_readSum 43 = .ok (.iload_n 1, 1) := by decide +kernel
theorem dX9_readSum_44 : decode cX9_readSum 44 = .ok (.bipush (-100), 2) := by decide +kernel
theorem dX9_readSum_46 : decode cX9_readSum 46 = .ok (.if_icmp .eq 11, 3) := by decide +kernel
theorem dX9_readSum_49 : decode cX9_readSum 49 = .ok (.aload_n 0, 1) := by decide +kernel
theorem dX9_readSum_50 : decode cX9_readSum 50 = .ok (.getfield 15, 3) := by decide +kernel
theorem dX9_readSum_53 : decode cX9_readSum 53 = .ok (.iload_n 1, 1) := by decide +kernel
theorem dX9_readSum_54 : decode cX9_readSum 54 = .ok (.invokevirtual 66, 3) := by decide +kernel
theorem dX9_readSum_57 : decode cX9_readSum 57 = .ok (.aload_n 0, 1) := by decide +kernel
theorem dX9_readSum_58 : decode cX9_readSum 58 = .ok (.bipush 42, 2) := by decide +kernel
theorem dX9_readSum_60 : decode cX9_readSum 60 = .ok (.bipush (-12), 2) := by decide +kernel
theorem dX9_readSum_62 : decode cX9_readSum 62 = .ok (.bipush 47, 2) := by decide +kernel
theorem dX9_readSum_64 : decode cX9_readSum 64 = .ok (.bipush (-13), 2) := by decide +kernel
theorem dX9_readSum_66 : decode cX9_readSum 66 = .ok (.invokevirtual 100, 3) := by decide +kernel
theorem dX9_readSum_69 : decode cX9_readSum 69 = .ok (.istore_n 1, 1) := by decide +kernel
theorem dX9_readSum_70 : decode cX9_readSum 70 = .ok (.iload_n 1, 1) := by decide +kernel
theorem dX9_readSum_71 : decode cX9_readSum 71 = .ok (.bipush (-100), 2) := by decide +kernel
theorem dX9_readSum_73 : decode cX9_readSum 73 = .ok (.if_icmp .ne 30, 3) := by decide +kernel
theorem dX9_readSum_76 : decode cX9_readSum 76 = .ok (.iload_n 2, 1) := by decide +kernel
theorem dX9_readSum_77 : decode cX9_readSum 77 = .ok (.bipush (-100), 2) := by decide +kernel
theorem dX9_readSum_79 : decode cX9_readSum 79 = .ok (.if_icmp .eq 11, 3) := by decide +kernel
theorem dX9_readSum_82 : decode cX9_readSum 82 = .ok (.aload_n 0, 1) := by decide +kernel
theorem dX9_readSum_83 : decode cX9_readSum 83 = .ok (.getfield 15, 3) := by decide +kernel
theorem dX9_readSum_86 : decode cX9_readSum 86 = .ok (.iload_n 2, 1) := by decide +kernel
theorem dX9_readSum_87 : decode cX9_readSum 87 = .ok (.invokevirtual 66, 3) := by decide +kernel
theorem dX9_readSum_90 : decode cX9_readSum 90 = .ok (.aload_n 0, 1) := by decide +kernel
theorem dX9_readSum_91 : decode cX9_readSum 91 = .ok (.bipush 43, 2) := by decide +kernel
theorem dX9_readSum_93 : decode cX9_readSum 93 = .ok (.bipush (-10), 2) := by decide +kernel
theorem dX9_readSum_95 : decode cX9_readSum 95 = .ok (.bipush 45, 2) := by decide +kernel
theorem dX9_readSum_97 : decode cX9_readSum 97 = .ok (.bipush (-11), 2) := by decide +kernel
theorem dX9_readSum_99 : decode cX9_readSum 99 = .ok (.invokevirtual 100, 3) := by decide +kernel
theorem dX9_readSum_102 : decode cX9_readSum 102 = .ok (.istore_n 2, 1) := by decide +kernel
theorem dX9_readSum_103 : decode cX9_readSum 103 = .ok (.iload_n 1, 1) := by decide +kernel
theorem dX9_readSum_104 : decode cX9_readSum 104 = .ok (.bipush (-100), 2) := by decide +kernel
theorem dX9_readSum_106 : decode cX9_readSum 106 = .ok (.if_icmp .ne 10, 3) := by decide +kernel
theorem dX9_readSum_109 : decode cX9_readSum 109 = .ok (.iload_n 2, 1) := by decide +kernel
theorem dX9_readSum_110 : decode cX9_readSum 110 = .ok (.bipush (-100), 2) := by decide +kernel
theorem dX9_readSum_112 : decode cX9_readSum 112 = .ok (.if_icmp .ne 4, 3) := by decide +kernel
theorem dX9_readSum_115 : decode cX9_readSum 115 = .ok (.return_, 1) := by decide +kernel
theorem dX9_readSum_116 : decode cX9_readSum 116 = .ok (.aload_n 0, 1) := by decide +kernel
theorem dX9_readSum_117 : decode cX9_readSum 117 = .ok (.getfield 9, 3) := by decide +kernel
theorem dX9_readSum_120 : decode cX9_readSum 120 = .ok (.invokevirtual 24, 3) := by decide +kernel
theorem dX9_readSum_123 : decode cX9_readSum 123 = .ok (.iinc 3 1, 3) := by decide +kernel
theorem dX9_readSum_126 : decode cX9_readSum 126 = .ok (.goto (-118), 3) := by decide +kernel
theorem dX9_readSum_129 : decode cX9_readSum 129 = .ok (.return_, 1) := by decide +kernel
set_option maxRecDepth 20000 in
theorem ggX9_codeOfSign_X7_isSign : GoodIn wsX9_codeOfSign wsX7_isSign := goodIn_r _ [6, 7, 8, 12, 13, 14, 15, 16, 17, 18, 19] (by decide +kernel) (by decide +kernel)
set_option maxRecDepth 20000 in
theorem gX9_codeOfSign_X7_isSign : GoodIn wsX9_codeOfSign (wsV RX9 73 RX7 yX7_isSign wsX7_isSign) := goodIn_app (goodIn_of _ (by decide +kernel)) ggX9_codeOfSign_X7_isSign
theorem dX9_codeOfSign_0 : decode cX9_codeOfSign 0 = .ok (.aload_n 0, 1) := by decide +kernel
theorem dX9_codeOfSign_1 : decode cX9_codeOfSign 1 = .ok (.getfield 9, 3) := by decide +kernel
theorem dX9_codeOfSign_4 : decode cX9_codeOfSign 4 = .ok (.iload_n 1, 1) := by decide +kernel
theorem dX9_codeOfSign_5 : decode cX9_codeOfSign 5 = .ok (.invokevirtual 73, 3) := by decide +kernel
theorem dX9_codeOfSign_8 : decode cX9_codeOfSign 8 = .ok (.ifCond .eq 5, 3) := by decide +kernel
theorem dX9_codeOfSign_11 : decode cX9_codeOfSign 11 = .ok (.iload_n 2, 1) := by decide +kernel
theorem dX9_codeOfSign_12 : decode cX9_codeOfSign 12 = .ok (.ireturn, 1) := by decide +kernel
theorem dX9_codeOfSign_13 : decode cX9_codeOfSign 13 = .ok (.aload_n 0, 1) := by decide +kernel
theorem dX9_codeOfSign_14 : decode cX9_codeOfSign 14 = .ok (.getfield 9, 3) := by decide +kernel
theorem dX9_codeOfSign_17 : decode cX9_codeOfSign 17 = .ok (.iload_n 3, 1) := by decide +kernel
theorem dX9_codeOfSign_18 : decode cX9_codeOfSign 18 = .ok (.invokevirtual 73, 3) := by decide +kernel
theorem dX9_codeOfSign_21 : decode cX9_codeOfSign 21 = .ok (.ifCond .eq 8, 3) := by decide +kernel
theorem dX9_codeOfSign_24 : decode cX9_codeOfSign 24 = .ok (.iload 4, 2) := by decide +kernel
theorem dX9_codeOfSign_26 : decode cX9_codeOfSign 26 = .ok (.goto 5, 3) := by decide +kernel
theorem dX9_codeOfSign_29 : decode cX9_codeOfSign 29 = .ok (.bipush (-100), 2) := by decide +kernel
theorem dX9_codeOfSign_31 : decode cX9_codeOfSign 31 = .ok (.ireturn, 1) := by decide +kernel
set_option maxRecDepth 20000 in
theorem ggX9_valueAhead_X7_nameAmong : GoodIn wsX9_valueAhead wsX7_nameAmong := goodIn_r _ [8, 9, 10, 11, 12, 13, 14, 15, 16, 17, 18, 19, 20, 21, 22, 23, 24, 25, 26, 27, 28, 29, 30, 31, 32, 33, 34, 35, 36, 37, 38, 39, 40, 41, 42, 43, 44, 45, 46, 47, 48, 49, 50, 51, 52, 53, 54, 55, 56, 57, 58, 59, 60, 61, 76, 77, 78, 79, 80, 81, 82, 83] (by decide +kernel) (by decide +kernel)
set_option maxRecDepth 20000 in
theorem gX9_valueAhead_X7_nameAmong : GoodIn wsX9_valueAhead (wsV RX9 43 RX7 yX7_nameAmong wsX7_nameAmong) := goodIn_app (goodIn_of _ (by decide +kernel)) ggX9_valueAhead_X7_nameAmong
set_option maxRecDepth 20000 in
theorem ggX9_valueAhead_X7_fail : GoodIn wsX9_valueAhead wsX7_fail := goodIn_r _ [65, 66, 11, 76, 77, 78, 79, 80, 81, 82, 83] (by decide +kernel) (by decide +kernel)
set_option maxRecDepth 20000 in
theorem gX9_valueAhead_X7_fail : GoodIn wsX9_valueAhead (wsV RX9 47 RX7 yX7_fail wsX7_fail) := goodIn_app (goodIn_of _ (by decide +kernel)) ggX9_valueAhead_X7_fail
set_option maxRecDepth 20000 in
theorem ggX9_valueAhead_X9_isRoomForNode : GoodIn wsX9_valueAhead wsX9_isRoomForNode := goodIn_r _ [71, 72, 1, 62, 63, 64, 7, 65, 66, 11, 73, 74, 75, 76, 77, 78, 79, 80, 81, 82, 83] (by decide +kernel) (by decide +kernel)
set_option maxRecDepth 20000 in
theorem gX9_valueAhead_X9_isRoomForNode : GoodIn wsX9_valueAhead (wsV RX9 88 RX9 yX9_isRoomForNode wsX9_isRoomForNode) := goodIn_app (goodIn_of _ (by decide +kernel)) ggX9_valueAhead_X9_isRoomForNode
theorem dX9_valueAhead_0 : decode cX9_valueAhead 0 = .ok (.aload_n 0, 1) := by decide +kernel
theorem dX9_valueAhead_1 : decode cX9_valueAhead 1 = .ok (.getfield 9, 3) := by decide +kernel
theorem dX9_valueAhead_4 : decode cX9_valueAhead 4 = .ok (.ldc 104, 2) := by decide +kernel
theorem dX9_valueAhead_6 : decode cX9_valueAhead 6 = .ok (.invokevirtual 43, 3) := by decide +kernel
theorem dX9_valueAhead_9 : decode cX9_valueAhead 9 = .ok (.istore_n 1, 1) := by decide +kernel
theorem dX9_valueAhead_10 : decode cX9_valueAhead 10 = .ok (.aload_n 0, 1) := by decide +kernel
theorem dX9_valueAhead_11 : decode cX9_valueAhead 11 = .ok (.getfield 9, 3) := by decide +kernel
theorem dX9_valueAhead_14 : decode cX9_valueAhead 14 = .ok (.getfield 91, 3) := by decide +kernel
theorem dX9_valueAhead_17 : decode cX9_valueAhead 17 = .ok (.iconst 2, 1) := by decide +kernel
theorem dX9_valueAhead_18 : decode cX9_valueAhead 18 = .ok (.if_icmp .eq 19, 3) := by decide +kernel
theorem dX9_valueAhead_21 : decode cX9_valueAhead 21 = .ok (.iload_n 1, 1) := by decide +kernel
theorem dX9_valueAhead_22 : decode cX9_valueAhead 22 = .ok (.iconst (-1), 1) := by decide +kernel
theorem dX9_valueAhead_23 : decode cX9_valueAhead 23 = .ok (.if_icmp .ne 14, 3) := by decide +kernel
theorem dX9_valueAhead_26 : decode cX9_valueAhead 26 = .ok (.aload_n 0, 1) := by decide +kernel
theorem dX9_valueAhead_27 : decode cX9_valueAhead 27 = .ok (.getfield 9, 3) := by decide +kernel
theorem dX9_valueAhead_30 : decode cX9_valueAhead 30 = .ok (.iconst 0, 1) := by decide +kernel
theorem dX9_valueAhead_31 : decode cX9_valueAhead 31 = .ok (.invokevirtual 47, 3) := by decide +kernel
theorem dX9_valueAhead_34 : decode cX9_valueAhead 34 = .ok (.bipush (-100), 2) := by decide +kernel
theorem dX9_valueAhead_36 : decode cX9_valueAhead 36 = .ok (.ireturn, 1) := by decide +kernel
theorem dX9_valueAhead_37 : decode cX9_valueAhead 37 = .ok (.aload_n 0, 1) := by decide +kernel
theorem dX9_valueAhead_38 : decode cX9_valueAhead 38 = .ok (.getfield 9, 3) := by decide +kernel
theorem dX9_valueAhead_41 : decode cX9_valueAhead 41 = .ok (.getfield 91, 3) := by decide +kernel
theorem dX9_valueAhead_44 : decode cX9_valueAhead 44 = .ok (.iconst 2, 1) := by decide +kernel
theorem dX9_valueAhead_45 : decode cX9_valueAhead 45 = .ok (.if_icmp .ne 25, 3) := by decide +kernel
theorem dX9_valueAhead_48 : decode cX9_valueAhead 48 = .ok (.aload_n 0, 1) := by decide +kernel
theorem dX9_valueAhead_49 : decode cX9_valueAhead 49 = .ok (.getfield 9, 3) := by decide +kernel
theorem dX9_valueAhead_52 : decode cX9_valueAhead 52 = .ok (.getfield 106, 3) := by decide +kernel
theorem dX9_valueAhead_55 : decode cX9_valueAhead 55 = .ok (.iconst (-1), 1) := by decide +kernel
theorem dX9_valueAhead_56 : decode cX9_valueAhead 56 = .ok (.if_icmp .ne 14, 3) := by decide +kernel
theorem dX9_valueAhead_59 : decode cX9_valueAhead 59 = .ok (.aload_n 0, 1) := by decide +kernel
theorem dX9_valueAhead_60 : decode cX9_valueAhead 60 = .ok (.getfield 9, 3) := by decide +kernel
theorem dX9_valueAhead_63 : decode cX9_valueAhead 63 = .ok (.iconst 1, 1) := by decide +kernel
theorem dX9_valueAhead_64 : decode cX9_valueAhead 64 = .ok (.invokevirtual 47, 3) := by decide +kernel
theorem dX9_valueAhead_67 : decode cX9_valueAhead 67 = .ok (.bipush (-100), 2) := by decide +kernel
theorem dX9_valueAhead_69 : decode cX9_valueAhead 69 = .ok (.ireturn, 1) := by decide +kernel
theorem dX9_valueAhead_70 : decode cX9_valueAhead 70 = .ok (.aload_n 0, 1) := by decide +kernel
theorem dX9_valueAhead_71 : decode cX9_valueAhead 71 = .ok (.invokevirtual 88, 3) := by decide +kernel
theorem dX9_valueAhead_74 : decode cX9_valueAhead 74 = .ok (.ifCond .ne 6, 3) := by decide +kernel
theorem dX9_valueAhead_77 : decode cX9_valueAhead 77 = .ok (.bipush (-100), 2) := by decide +kernel
theorem dX9_valueAhead_79 : decode cX9_valueAhead 79 = .ok (.ireturn, 1) := by decide +kernel
theorem dX9_valueAhead_80 : decode cX9_valueAhead 80 = .ok (.iload_n 1, 1) := by decide +kernel
theorem dX9_valueAhead_81 : decode cX9_valueAhead 81 = .ok (.iconst (-1), 1) := by decide +kernel
theorem dX9_valueAhead_82 : decode cX9_valueAhead 82 = .ok (.if_icmp .ne 13, 3) := by decide +kernel
theorem dX9_valueAhead_85 : decode cX9_valueAhead 85 = .ok (.aload_n 0, 1) := by decide +kernel
theorem dX9_valueAhead_86 : decode cX9_valueAhead 86 = .ok (.getfield 9, 3) := by decide +kernel
theorem dX9_valueAhead_89 : decode cX9_valueAhead 89 = .ok (.getfield 106, 3) := by decide +kernel
theorem dX9_valueAhead_92 : decode cX9_valueAhead 92 = .ok (.goto 6, 3) := by decide +kernel
theorem dX9_valueAhead_95 : decode cX9_valueAhead 95 = .ok (.iconst (-1), 1) := by decide +kernel
theorem dX9_valueAhead_96 : decode cX9_valueAhead 96 = .ok (.iload_n 1, 1) := by decide +kernel
theorem dX9_valueAhead_97 : decode cX9_valueAhead 97 = .ok (.isub, 1) := by decide +kernel
theorem dX9_valueAhead_98 : decode cX9_valueAhead 98 = .ok (.ireturn, 1) := by decide +kernel
set_option maxRecDepth 20000 in
theorem ggX9_isRoomForNode_X7_fail : GoodIn wsX9_isRoomForNode wsX7_fail := goodIn_r _ [7, 8, 9, 13, 14, 15, 16, 17, 18, 19, 20] (by decide +kernel) (by decide +kernel)
set_option maxRecDepth 20000 in
theorem gX9_isRoomForNode_X7_fail : GoodIn wsX9_isRoomForNode (wsV RX9 47 RX7 yX7_fail wsX7_fail) := goodIn_app (goodIn_of _ (by decide +kernel)) ggX9_isRoomForNode_X7_fail
theorem dX9_isRoomForNode_0 : decode cX9_isRoomForNode 0 = .ok (.aload_n 0, 1) := by decide +kernel
theorem dX9_isRoomForNode_1 : decode cX9_isRoomForNode 1 = .ok (.dup, 1) := by decide +kernel
theorem dX9_isRoomForNode_2 : decode cX9_isRoomForNode 2 = .ok (.getfield 109, 3) := by decide +kernel
theorem dX9_isRoomForNode_5 : decode cX9_isRoomForNode 5 = .ok (.iconst 1, 1) := by decide +kernel
theorem dX9_isRoomForNode_6 : decode cX9_isRoomForNode 6 = .ok (.iadd, 1) := by decide +kernel
theorem dX9_isRoomForNode_7 : decode cX9_isRoomForNode 7 = .ok (.putfield 109, 3) := by decide +kernel
theorem dX9_isRoomForNode_10 : decode cX9_isRoomForNode 10 = .ok (.aload_n 0, 1) := by decide +kernel
theorem dX9_isRoomForNode_11 : decode cX9_isRoomForNode 11 = .ok (.getfield 109, 3) := by decide +kernel
theorem dX9_isRoomForNode_14 : decode cX9_isRoomForNode 14 = .ok (.bipush 60, 2) := by decide +kernel
theorem dX9_isRoomForNode_16 : decode cX9_isRoomForNode 16 = .ok (.if_icmp .le 13, 3) := by decide +kernel
theorem dX9_isRoomForNode_19 : decode cX9_isRoomForNode 19 = .ok (.aload_n 0, 1) := by decide +kernel
theorem dX9_isRoomForNode_20 : decode cX9_isRoomForNode 20 = .ok (.getfield 9, 3) := by decide +kernel
theorem dX9_isRoomForNode_23 : decode cX9_isRoomForNode 23 = .ok (.iconst 3, 1) := by decide +kernel
theorem dX9_isRoomForNode_24 : decode cX9_isRoomForNode 24 = .ok (.invokevirtual 47, 3) := by decide +kernel
theorem dX9_isRoomForNode_27 : decode cX9_isRoomForNode 27 = .ok (.iconst 0, 1) := by decide +kernel
theorem dX9_isRoomForNode_28 : decode cX9_isRoomForNode 28 = .ok (.ireturn, 1) := by decide +kernel
theorem dX9_isRoomForNode_29 : decode cX9_isRoomForNode 29 = .ok (.iconst 1, 1) := by decide +kernel
theorem dX9_isRoomForNode_30 : decode cX9_isRoomForNode 30 = .ok (.ireturn, 1) := by decide +kernel
set_option maxRecDepth 20000 in
theorem ggX10_init_X1_init : GoodIn wsX10_init wsX1_init := goodIn_r _ [19, 20, 2, 3, 16, 21, 22, 23, 38, 39, 40, 41, 42, 43] (by decide +kernel) (by decide +kernel)
set_option maxRecDepth 20000 in
theorem gX10_init_X1_init_n9 : GoodIn wsX10_init (wsX1_init) := ggX10_init_X1_init
set_option maxRecDepth 20000 in
theorem ggX10_init_X6_init : GoodIn wsX10_init wsX6_init := goodIn_r _ [25, 26, 2, 3, 27, 28, 16, 29, 30, 31, 49, 50, 51, 52, 53, 54, 55, 56, 57, 58] (by decide +kernel) (by decide +kernel)
set_option maxRecDepth 20000 in
theorem gX10_init_X6_init_n18 : GoodIn wsX10_init (wsX6_init) := ggX10_init_X6_init
set_option maxRecDepth 20000 in
theorem ggX10_init_X4_init : GoodIn wsX10_init wsX4_init := goodIn_r _ [33, 34, 2, 3, 16, 35, 36, 37, 59, 60, 61, 62] (by decide +kernel) (by decide +kernel)
set_option maxRecDepth 20000 in
theorem gX10_init_X4_init_n25 : GoodIn wsX10_init (wsX4_init) := ggX10_init_X4_init
theorem dX10_init_0 : decode cX10_init 0 = .ok (.aload_n 0, 1) := by decide +kernel
theorem dX10_init_1 : decode cX10_init 1 = .ok (.invokespecial 1, 3) := by decide +kernel
theorem dX10_init_4 : decode cX10_init 4 = .ok (.aload_n 0, 1) := by decide +kernel
theorem dX10_init_5 : decode cX10_init 5 = .ok (.new 7, 3) := by decide +kernel
theorem dX10_init_8 : decode cX10_init 8 = .ok (.dup, 1) := by decide +kernel
theorem dX10_init_9 : decode cX10_init 9 = .ok (.invokespecial 9, 3) := by decide +kernel
theorem dX10_init_12 : decode cX10_init 12 = .ok (.putfield 10, 3) := by decide +kernel
theorem dX10_init_15 : decode cX10_init 15 = .ok (.aload_n 0, 1) := by decide +kernel
theorem dX10_init_16 : decode cX10_init 16 = .ok (.new 16, 3) := by decide +kernel
theorem dX10_init_19 : decode cX10_init 19 = .ok (.dup, 1) := by decide +kernel
theorem dX10_init_20 : decode cX10_init 20 = .ok (.invokespecial 18, 3) := by decide +kernel
theorem dX10_init_23 : decode cX10_init 23 = .ok (.putfield 19, 3) := by decide +kernel
theorem dX10_init_26 : decode cX10_init 26 = .ok (.aload_n 0, 1) := by decide +kernel
theorem dX10_init_27 : decode cX10_init 27 = .ok (.new 23, 3) := by decide +kernel
theorem dX10_init_30 : decode cX10_init 30 = .ok (.dup, 1) := by decide +kernel
theorem dX10_init_31 : decode cX10_init 31 = .ok (.invokespecial 25, 3) := by decide +kernel
theorem dX10_init_34 : decode cX10_init 34 = .ok (.putfield 26, 3) := by decide +kernel
theorem dX10_init_37 : decode cX10_init 37 = .ok (.aload_n 0, 1) := by decide +kernel
theorem dX10_init_38 : decode cX10_init 38 = .ok (.iconst 2, 1) := by decide +kernel
theorem dX10_init_39 : decode cX10_init 39 = .ok (.newarray .int, 2) := by decide +kernel
theorem dX10_init_41 : decode cX10_init 41 = .ok (.putfield 30, 3) := by decide +kernel
theorem dX10_init_44 : decode cX10_init 44 = .ok (.return_, 1) := by decide +kernel
set_option maxRecDepth 20000 in
theorem ggX10_copyFrom_X1_copyFrom : GoodIn wsX10_copyFrom wsX1_copyFrom := goodIn_r _ [10, 11, 12, 13, 14, 15, 16, 17, 18, 19, 20, 51, 52, 53, 54, 55, 56] (by decide +kernel) (by decide +kernel)
set_option maxRecDepth 20000 in
theorem gX10_copyFrom_X1_copyFrom : GoodIn wsX10_copyFrom (wsV RX10 34 RX1 yX1_copyFrom wsX1_copyFrom) := goodIn_app (goodIn_of _ (by decide +kernel)) ggX10_copyFrom_X1_copyFrom
set_option maxRecDepth 20000 in
theorem ggX10_copyFrom_X6_copyFrom : GoodIn wsX10_copyFrom wsX6_copyFrom := goodIn_r _ [25, 26, 27, 28, 29, 30, 31, 32, 33, 34, 16, 17, 18, 35, 36, 57, 58, 59, 60, 61, 62, 63, 64, 65, 66] (by decide +kernel) (by decide +kernel)
set_option maxRecDepth 20000 in
theorem gX10_copyFrom_X6_copyFrom : GoodIn wsX10_copyFrom (wsV RX10 38 RX6 yX6_copyFrom wsX6_copyFrom) := goodIn_app (goodIn_of _ (by decide +kernel)) ggX10_copyFrom_X6_copyFrom
set_option maxRecDepth 20000 in
theorem ggX10_copyFrom_X4_copyFrom : GoodIn wsX10_copyFrom wsX4_copyFrom := goodIn_r _ [41, 42, 43, 44, 16, 17, 18, 45, 67, 68, 69, 70] (by decide +kernel) (by decide +kernel)
set_option maxRecDepth 20000 in
theorem gX10_copyFrom_X4_copyFrom : GoodIn wsX10_copyFrom (wsV RX10 41 RX4 yX4_copyFrom wsX4_copyFrom) := goodIn_app (goodIn_of _ (by decide +kernel)) ggX10_copyFrom_X4_copyFrom
theorem dX10_copyFrom_0 : decode cX10_copyFrom 0 = .ok (.aload_n 0, 1) := by decide +kernel
theorem dX10_copyFrom_1 : decode cX10_copyFrom 1 = .ok (.getfield 10, 3) := by decide +kernel
theorem dX10_copyFrom_4 : decode cX10_copyFrom 4 = .ok (.aload_n 1, 1) := by decide +kernel
theorem dX10_copyFrom_5 : decode cX10_copyFrom 5 = .ok (.getfield 10, 3) := by decide +kernel
theorem dX10_copyFrom_8 : decode cX10_copyFrom 8 = .ok (.invokevirtual 34, 3) := by decide +kernel
theorem dX10_copyFrom_11 : decode cX10_copyFrom 11 = .ok (.aload_n 0, 1) := by decide +kernel
theorem dX10_copyFrom_12 : decode cX10_copyFrom 12 = .ok (.getfield 19, 3) := by decide +kernel
theorem dX10_copyFrom_15 : decode cX10_copyFrom 15 = .ok (.aload_n 1, 1) := by decide +kernel
theorem dX10_copyFrom_16 : decode cX10_copyFrom 16 = .ok (.getfield 19, 3) := by decide +kernel
theorem dX10_copyFrom_19 : decode cX10_copyFrom 19 = .ok (.invokevirtual 38, 3) := by decide +kernel
theorem dX10_copyFrom_22 : decode cX10_copyFrom 22 = .ok (.aload_n 0, 1) := by decide +kernel
theorem dX10_copyFrom_23 : decode cX10_copyFrom 23 = .ok (.getfield 26, 3) := by decide +kernel
theorem dX10_copyFrom_26 : decode cX10_copyFrom 26 = .ok (.aload_n 1, 1) := by decide +kernel
theorem dX10_copyFrom_27 : decode cX10_copyFrom 27 = .ok (.getfield 26, 3) := by decide +kernel
theorem dX10_copyFrom_30 : decode cX10_copyFrom 30 = .ok (.invokevirtual 41, 3) := by decide +kernel
theorem dX10_copyFrom_33 : decode cX10_copyFrom 33 = .ok (.aload_n 0, 1) := by decide +kernel
theorem dX10_copyFrom_34 : decode cX10_copyFrom 34 = .ok (.getfield 30, 3) := by decide +kernel
theorem dX10_copyFrom_37 : decode cX10_copyFrom 37 = .ok (.iconst 0, 1) := by decide +kernel
theorem dX10_copyFrom_38 : decode cX10_copyFrom 38 = .ok (.aload_n 1, 1) := by decide +kernel
theorem dX10_copyFrom_39 : decode cX10_copyFrom 39 = .ok (.getfield 30, 3) := by decide +kernel
theorem dX10_copyFrom_42 : decode cX10_copyFrom 42 = .ok (.iconst 0, 1) := by decide +kernel
theorem dX10_copyFrom_43 : decode cX10_copyFrom 43 = .ok (.iaload, 1) := by decide +kernel
theorem dX10_copyFrom_44 : decode cX10_copyFrom 44 = .ok (.iastore, 1) := by decide +kernel
theorem dX10_copyFrom_45 : decode cX10_copyFrom 45 = .ok (.aload_n 0, 1) := by decide +kernel
theorem dX10_copyFrom_46 : decode cX10_copyFrom 46 = .ok (.getfield 30, 3) := by decide +kernel
theorem dX10_copyFrom_49 : decode cX10_copyFrom 49 = .ok (.iconst 1, 1) := by decide +kernel
theorem dX10_copyFrom_50 : decode cX10_copyFrom 50 = .ok (.aload_n 1, 1) := by decide +kernel
theorem dX10_copyFrom_51 : decode cX10_copyFrom 51 = .ok (.getfield 30, 3) := by decide +kernel
theorem dX10_copyFrom_54 : decode cX10_copyFrom 54 = .ok (.iconst 1, 1) := by decide +kernel
theorem dX10_copyFrom_55 : decode cX10_copyFrom 55 = .ok (.iaload, 1) := by decide +kernel
theorem dX10_copyFrom_56 : decode cX10_copyFrom 56 = .ok (.iastore, 1) := by decide +kernel
theorem dX10_copyFrom_57 : decode cX10_copyFrom 57 = .ok (.aload_n 0, 1) := by decide +kernel
theorem dX10_copyFrom_58 : decode cX10_copyFrom 58 = .ok (.aload_n 1, 1) := by decide +kernel
theorem dX10_copyFrom_59 : decode cX10_copyFrom 59 = .ok (.getfield 44, 3) := by decide +kernel
theorem dX10_copyFrom_62 : decode cX10_copyFrom 62 = .ok (.putfield 44, 3) := by decide +kernel
theorem dX10_copyFrom_65 : decode cX10_copyFrom 65 = .ok (.return_, 1) := by decide +kernel
set_option maxRecDepth 20000 in
theorem ggX10_settleIn_X1_copyFrom : GoodIn wsX10_settleIn wsX1_copyFrom := goodIn_r _ [10, 11, 12, 13, 14, 15, 16, 17, 18, 19, 20, 48, 49, 50, 51, 52, 53] (by decide +kernel) (by decide +kernel)
set_option maxRecDepth 20000 in
theorem gX10_settleIn_X1_copyFrom : GoodIn wsX10_settleIn (wsV RX10 34 RX1 yX1_copyFrom wsX1_copyFrom) := goodIn_app (goodIn_of _ (by decide +kernel)) ggX10_settleIn_X1_copyFrom
set_option maxRecDepth 20000 in
theorem ggX10_settleIn_X6_clear : GoodIn wsX10_settleIn wsX6_clear := goodIn_r _ [25, 26, 27, 28, 29, 30, 16, 17, 18, 31, 32, 33, 24, 34, 35, 36, 37, 38, 54, 55, 56, 57, 58, 59, 60, 61, 62, 63, 48, 49, 50, 51, 52, 53] (by decide +kernel) (by decide +kernel)
set_option maxRecDepth 20000 in
theorem gX10_settleIn_X6_clear : GoodIn wsX10_settleIn (wsV RX10 48 RX6 yX6_clear wsX6_clear) := goodIn_app (goodIn_of _ (by decide +kernel)) ggX10_settleIn_X6_clear
theorem dX10_settleIn_0 : decode cX10_settleIn 0 = .ok (.aload_n 0, 1) := by decide +kernel
theorem dX10_settleIn_1 : decode cX10_settleIn 1 = .ok (.getfield 10, 3) := by decide +kernel
theorem dX10_settleIn_4 : decode cX10_settleIn 4 = .ok (.aload_n 1, 1) := by decide +kernel
theorem dX10_settleIn_5 : decode cX10_settleIn 5 = .ok (.invokevirtual 34, 3) := by decide +kernel
theorem dX10_settleIn_8 : decode cX10_settleIn 8 = .ok (.aload_n 0, 1) := by decide +kernel
theorem dX10_settleIn_9 : decode cX10_settleIn 9 = .ok (.getfield 19, 3) := by decide +kernel
theorem dX10_settleIn_12 : decode cX10_settleIn 12 = .ok (.aload_n 1, 1) := by decide +kernel
theorem dX10_settleIn_13 : decode cX10_settleIn 13 = .ok (.invokevirtual 48, 3) := by decide +kernel
theorem dX10_settleIn_16 : decode cX10_settleIn 16 = .ok (.aload_n 0, 1) := by decide +kernel
theorem dX10_settleIn_17 : decode cX10_settleIn 17 = .ok (.getfield 26, 3) := by decide +kernel
theorem dX10_settleIn_20 : decode cX10_settleIn 20 = .ok (.iconst 0, 1) := by decide +kernel
theorem dX10_settleIn_21 : decode cX10_settleIn 21 = .ok (.putfield 51, 3) := by decide +kernel
theorem dX10_settleIn_24 : decode cX10_settleIn 24 = .ok (.aload_n 0, 1) := by decide +kernel
theorem dX10_settleIn_25 : decode cX10_settleIn 25 = .ok (.getfield 30, 3) := by decide +kernel
theorem dX10_settleIn_28 : decode cX10_settleIn 28 = .ok (.iconst 0, 1) := by decide +kernel
theorem dX10_settleIn_29 : decode cX10_settleIn 29 = .ok (.iconst 0, 1) := by decide +kernel
theorem dX10_settleIn_30 : decode cX10_settleIn 30 = .ok (.iastore, 1) := by decide +kernel
theorem dX10_settleIn_31 : decode cX10_settleIn 31 = .ok (.aload_n 0, 1) := by decide +kernel
theorem dX10_settleIn_32 : decode cX10_settleIn 32 = .ok (.getfield 30, 3) := by decide +kernel
theorem dX10_settleIn_35 : decode cX10_settleIn 35 = .ok (.iconst 1, 1) := by decide +kernel
theorem dX10_settleIn_36 : decode cX10_settleIn 36 = .ok (.iconst 0, 1) := by decide +kernel
theorem dX10_settleIn_37 : decode cX10_settleIn 37 = .ok (.iastore, 1) := by decide +kernel
theorem dX10_settleIn_38 : decode cX10_settleIn 38 = .ok (.return_, 1) := by decide +kernel
theorem dX10_noteWinner_0 : decode cX10_noteWinner 0 = .ok (.aload_n 0, 1) := by decide +kernel
theorem dX10_noteWinner_1 : decode cX10_noteWinner 1 = .ok (.getfield 19, 3) := by decide +kernel
theorem dX10_noteWinner_4 : decode cX10_noteWinner 4 = .ok (.getfield 54, 3) := by decide +kernel
theorem dX10_noteWinner_7 : decode cX10_noteWinner 7 = .ok (.ifCond .ne 40, 3) := by decide +kernel
theorem dX10_noteWinner_10 : decode cX10_noteWinner 10 = .ok (.aload_n 0, 1) := by decide +kernel
theorem dX10_noteWinner_11 : decode cX10_noteWinner 11 = .ok (.getfield 19, 3) := by decide +kernel
theorem dX10_noteWinner_14 : decode cX10_noteWinner 14 = .ok (.getfield 58, 3) := by decide +kernel
theorem dX10_noteWinner_17 : decode cX10_noteWinner 17 = .ok (.ifCond .eq 14, 3) := by decide +kernel
theorem dX10_noteWinner_20 : decode cX10_noteWinner 20 = .ok (.aload_n 0, 1) := by decide +kernel
theorem dX10_noteWinner_21 : decode cX10_noteWinner 21 = .ok (.getfield 19, 3) := by decide +kernel
theorem dX10_noteWinner_24 : decode cX10_noteWinner 24 = .ok (.getfield 58, 3) := by decide +kernel
theorem dX10_noteWinner_27 : decode cX10_noteWinner 27 = .ok (.iconst 1, 1) := by decide +kernel
theorem dX10_noteWinner_28 : decode cX10_noteWinner 28 = .ok (.if_icmp .ne 19, 3) := by decide +kernel
theorem dX10_noteWinner_31 : decode cX10_noteWinner 31 = .ok (.aload_n 0, 1) := by decide +kernel
theorem dX10_noteWinner_32 : decode cX10_noteWinner 32 = .ok (.getfield 30, 3) := by decide +kernel
theorem dX10_noteWinner_35 : decode cX10_noteWinner 35 = .ok (.aload_n 0, 1) := by decide +kernel
theorem dX10_noteWinner_36 : decode cX10_noteWinner 36 = .ok (.getfield 19, 3) := by decide +kernel
theorem dX10_noteWinner_39 : decode cX10_noteWinner 39 = .ok (.getfield 58, 3) := by decide +kernel
theorem dX10_noteWinner_42 : decode cX10_noteWinner 42 = .ok (.dup2, 1) := by decide +kernel
theorem dX10_noteWinner_43 : decode cX10_noteWinner 43 = .ok (.iaload, 1) := by decide +kernel
theorem dX10_noteWinner_44 : decode cX10_noteWinner 44 = .ok (.iconst 1, 1) := by decide +kernel
theorem dX10_noteWinner_45 : decode cX10_noteWinner 45 = .ok (.iadd, 1) := by decide +kernel
theorem dX10_noteWinner_46 : decode cX10_noteWinner 46 = .ok (.iastore, 1) := by decide +kernel
theorem dX10_noteWinner_47 : decode cX10_noteWinner 47 = .ok (.return_, 1) := by decide +kernel
theorem dX10_allWon_0 : decode cX10_allWon 0 = .ok (.aload_n 0, 1) := by decide +kernel
theorem dX10_allWon_1 : decode cX10_allWon 1 = .ok (.getfield 30, 3) := by decide +kernel
theorem dX10_allWon_4 : decode cX10_allWon 4 = .ok (.iconst 0, 1) := by decide +kernel
theorem dX10_allWon_5 : decode cX10_allWon 5 = .ok (.iaload, 1) := by decide +kernel
theorem dX10_allWon_6 : decode cX10_allWon 6 = .ok (.aload_n 0, 1) := by decide +kernel
theorem dX10_allWon_7 : decode cX10_allWon 7 = .ok (.getfield 30, 3) := by decide +kernel
theorem dX10_allWon_10 : decode cX10_allWon 10 = .ok (.iconst 1, 1) := by decide +kernel
theorem dX10_allWon_11 : decode cX10_allWon 11 = .ok (.iaload, 1) := by decide +kernel
theorem dX10_allWon_12 : decode cX10_allWon 12 = .ok (.iadd, 1) := by decide +kernel
theorem dX10_allWon_13 : decode cX10_allWon 13 = .ok (.ireturn, 1) := by decide +kernel
set_option maxRecDepth 20000 in
theorem ggX11_init_X10_init : GoodIn wsX11_init wsX10_init := goodIn_r _ [36, 37, 2, 3, 38, 14, 15, 39, 40, 18, 19, 41, 42, 43, 44, 45, 4, 46, 47, 48, 49, 50, 51, 52, 53, 54, 55, 56, 57, 58, 59, 60, 61, 62, 63, 64, 65, 66, 100, 101, 102, 103, 104, 105, 95, 96, 97, 98, 99, 106, 107, 108, 109, 110, 111, 112, 113, 114, 115, 136, 137, 138, 139] (by decide +kernel) (by decide +kernel)
set_option maxRecDepth 20000 in
theorem gX11_init_X10_init_n21 : GoodIn wsX11_init (wsX10_init) := ggX11_init_X10_init
set_option maxRecDepth 20000 in
theorem ggX11_init_X1_init : GoodIn wsX11_init wsX1_init := goodIn_r _ [48, 49, 2, 3, 4, 50, 51, 52, 100, 101, 102, 103, 104, 105] (by decide +kernel) (by decide +kernel)
set_option maxRecDepth 20000 in
theorem gX11_init_X1_init_n32 : GoodIn wsX11_init (wsX1_init) := ggX11_init_X1_init
set_option maxRecDepth 20000 in
theorem ggX11_init_X6_init : GoodIn wsX11_init wsX6_init := goodIn_r _ [54, 55, 2, 3, 56, 57, 4, 58, 59, 60, 106, 107, 108, 109, 110, 111, 112, 113, 114, 115] (by decide +kernel) (by decide +kernel)
set_option maxRecDepth 20000 in
theorem gX11_init_X6_init_n39 : GoodIn wsX11_init (wsX6_init) := ggX11_init_X6_init
set_option maxRecDepth 20000 in
theorem ggX11_init_X0_init : GoodIn wsX11_init wsX0_init := goodIn_r _ [69, 70, 2, 3, 33, 71, 72, 4, 73, 74, 116, 117, 118, 119, 120, 121, 122, 123, 124, 125, 126] (by decide +kernel) (by decide +kernel)
set_option maxRecDepth 20000 in
theorem gX11_init_X0_init : GoodIn wsX11_init (wsX0_init) := ggX11_init_X0_init
set_option maxRecDepth 20000 in
theorem ggX11_init_X5_init : GoodIn wsX11_init wsX5_init := goodIn_r _ [76, 77, 2, 3, 4, 78, 79, 127, 128, 129, 130] (by decide +kernel) (by decide +kernel)
set_option maxRecDepth 20000 in
theorem gX11_init_X5_init_n53 : GoodIn wsX11_init (wsX5_init) := ggX11_init_X5_init
set_option maxRecDepth 20000 in
theorem ggX11_init_X3_init : GoodIn wsX11_init wsX3_init := goodIn_r _ [81, 82, 2, 3] (by decide +kernel) (by decide +kernel)
set_option maxRecDepth 20000 in
theorem gX11_init_X3_init_n60 : GoodIn wsX11_init (wsX3_init) := ggX11_init_X3_init
theorem dX11_init_0 : decode cX11_init 0 = .ok (.aload_n 0, 1) := by decide +kernel
theorem dX11_init_1 : decode cX11_init 1 = .ok (.invokespecial 1, 3) := by decide +kernel
theorem dX11_init_4 : decode cX11_init 4 = .ok (.aload_n 0, 1) := by decide +kernel
theorem dX11_init_5 : decode cX11_init 5 = .ok (.sipush 400, 3) := by decide +kernel
theorem dX11_init_8 : decode cX11_init 8 = .ok (.newarray .int, 2) := by decide +kernel
theorem dX11_init_10 : decode cX11_init 10 = .ok (.putfield 9, 3) := by decide +kernel
theorem dX11_init_13 : decode cX11_init 13 = .ok (.aload_n 0, 1) := by decide +kernel
theorem dX11_init_14 : decode cX11_init 14 = .ok (.bipush 6, 2) := by decide +kernel
theorem dX11_init_16 : decode cX11_init 16 = .ok (.anewarray 13, 3) := by decide +kernel
theorem dX11_init_19 : decode cX11_init 19 = .ok (.putfield 15, 3) := by decide +kernel
theorem dX11_init_22 : decode cX11_init 22 = .ok (.aload_n 0, 1) := by decide +kernel
theorem dX11_init_23 : decode cX11_init 23 = .ok (.new 19, 3) := by decide +kernel
theorem dX11_init_26 : decode cX11_init 26 = .ok (.dup, 1) := by decide +kernel
theorem dX11_init_27 : decode cX11_init 27 = .ok (.invokespecial 21, 3) := by decide +kernel
theorem dX11_init_30 : decode cX11_init 30 = .ok (.putfield 22, 3) := by decide +kernel
theorem dX11_init_33 : decode cX11_init 33 = .ok (.aload_n 0, 1) := by decide +kernel
theorem dX11_init_34 : decode cX11_init 34 = .ok (.iconst 4, 1) := by decide +kernel
theorem dX11_init_35 : decode cX11_init 35 = .ok (.anewarray 19, 3) := by decide +kernel
theorem dX11_init_38 : decode cX11_init 38 = .ok (.putfield 26, 3) := by decide +kernel
theorem dX11_init_41 : decode cX11_init 41 = .ok (.aload_n 0, 1) := by decide +kernel
theorem dX11_init_42 : decode cX11_init 42 = .ok (.new 30, 3) := by decide +kernel
theorem dX11_init_45 : decode cX11_init 45 = .ok (.dup, 1) := by decide +kernel
theorem dX11_init_46 : decode cX11_init 46 = .ok (.invokespecial 32, 3) := by decide +kernel
theorem dX11_init_49 : decode cX11_init 49 = .ok (.putfield 33, 3) := by decide +kernel
theorem dX11_init_52 : decode cX11_init 52 = .ok (.aload_n 0, 1) := by decide +kernel
theorem dX11_init_53 : decode cX11_init 53 = .ok (.new 37, 3) := by decide +kernel
theorem dX11_init_56 : decode cX11_init 56 = .ok (.dup, 1) := by decide +kernel
theorem dX11_init_57 : decode cX11_init 57 = .ok (.invokespecial 39, 3) := by decide +kernel
theorem dX11_init_60 : decode cX11_init 60 = .ok (.putfield 40, 3) := by decide +kernel
theorem dX11_init_63 : decode cX11_init 63 = .ok (.aload_n 0, 1) := by decide +kernel
theorem dX11_init_64 : decode cX11_init 64 = .ok (.new 44, 3) := by decide +kernel
theorem dX11_init_67 : decode cX11_init 67 = .ok (.dup, 1) := by decide +kernel
theorem dX11_init_68 : decode cX11_init 68 = .ok (.invokespecial 46, 3) := by decide +kernel
theorem dX11_init_71 : decode cX11_init 71 = .ok (.putfield 47, 3) := by decide +kernel
theorem dX11_init_74 : decode cX11_init 74 = .ok (.aload_n 0, 1) := by decide +kernel
theorem dX11_init_75 : decode cX11_init 75 = .ok (.new 51, 3) := by decide +kernel
theorem dX11_init_78 : decode cX11_init 78 = .ok (.dup, 1) := by decide +kernel
theorem dX11_init_79 : decode cX11_init 79 = .ok (.invokespecial 53, 3) := by decide +kernel
theorem dX11_init_82 : decode cX11_init 82 = .ok (.putfield 54, 3) := by decide +kernel
theorem dX11_init_85 : decode cX11_init 85 = .ok (.aload_n 0, 1) := by decide +kernel
theorem dX11_init_86 : decode cX11_init 86 = .ok (.new 58, 3) := by decide +kernel
theorem dX11_init_89 : decode cX11_init 89 = .ok (.dup, 1) := by decide +kernel
theorem dX11_init_90 : decode cX11_init 90 = .ok (.invokespecial 60, 3) := by decide +kernel
theorem dX11_init_93 : decode cX11_init 93 = .ok (.putfield 61, 3) := by decide +kernel
theorem dX11_init_96 : decode cX11_init 96 = .ok (.aload_n 0, 1) := by decide +kernel
theorem dX11_init_97 : decode cX11_init 97 = .ok (.iconst 4, 1) := by decide +kernel
theorem dX11_init_98 : decode cX11_init 98 = .ok (.newarray .long, 2) := by decide +kernel
theorem dX11_init_100 : decode cX11_init 100 = .ok (.putfield 65, 3) := by decide +kernel
theorem dX11_init_103 : decode cX11_init 103 = .ok (.return_, 1) := by decide +kernel
set_option maxRecDepth 20000 in
theorem ggX11_feed_X11_putBytes : GoodIn wsX11_feed wsX11_putBytes := goodIn_r _ [6, 1, 7, 8, 9, 10, 11, 12, 13, 14, 15, 16, 17, 18, 19] (by decide +kernel) (by decide +kernel)
set_option maxRecDepth 20000 in
theorem gX11_feed_X11_putBytes : GoodIn wsX11_feed (wsV RX11 73 RX11 yX11_putBytes wsX11_putBytes) := goodIn_app (goodIn_of _ (by decide +kernel)) ggX11_feed_X11_putBytes
theorem dX11_feed_0 : decode cX11_feed 0 = .ok (.aload_n 0, 1) := by decide +kernel
theorem dX11_feed_1 : decode cX11_feed 1 = .ok (.getfield 69, 3) := by decide +kernel
theorem dX11_feed_4 : decode cX11_feed 4 = .ok (.bipush 20, 2) := by decide +kernel
theorem dX11_feed_6 : decode cX11_feed 6 = .ok (.iadd, 1) := by decide +kernel
theorem dX11_feed_7 : decode cX11_feed 7 = .ok (.sipush 400, 3) := by decide +kernel
theorem dX11_feed_10 : decode cX11_feed 10 = .ok (.if_icmp .le 5, 3) := by decide +kernel
theorem dX11_feed_13 : decode cX11_feed 13 = .ok (.iconst (-1), 1) := by decide +kernel
theorem dX11_feed_14 : decode cX11_feed 14 = .ok (.ireturn, 1) := by decide +kernel
theorem dX11_feed_15 : decode cX11_feed 15 = .ok (.aload_n 0, 1) := by decide +kernel
theorem dX11_feed_16 : decode cX11_feed 16 = .ok (.iload_n 1, 1) := by decide +kernel
theorem dX11_feed_17 : decode cX11_feed 17 = .ok (.invokevirtual 73, 3) := by decide +kernel
theorem dX11_feed_20 : decode cX11_feed 20 = .ok (.aload_n 0, 1) := by decide +kernel
theorem dX11_feed_21 : decode cX11_feed 21 = .ok (.iload_n 2, 1) := by decide +kernel
theorem dX11_feed_22 : decode cX11_feed 22 = .ok (.invokevirtual 73, 3) := by decide +kernel
theorem dX11_feed_25 : decode cX11_feed 25 = .ok (.aload_n 0, 1) := by decide +kernel
theorem dX11_feed_26 : decode cX11_feed 26 = .ok (.iload_n 3, 1) := by decide +kernel
theorem dX11_feed_27 : decode cX11_feed 27 = .ok (.invokevirtual 73, 3) := by decide +kernel
theorem dX11_feed_30 : decode cX11_feed 30 = .ok (.aload_n 0, 1) := by decide +kernel
theorem dX11_feed_31 : decode cX11_feed 31 = .ok (.iload 4, 2) := by decide +kernel
theorem dX11_feed_33 : decode cX11_feed 33 = .ok (.invokevirtual 73, 3) := by decide +kernel
theorem dX11_feed_36 : decode cX11_feed 36 = .ok (.aload_n 0, 1) := by decide +kernel
theorem dX11_feed_37 : decode cX11_feed 37 = .ok (.iload 5, 2) := by decide +kernel
theorem dX11_feed_39 : decode cX11_feed 39 = .ok (.invokevirtual 73, 3) := by decide +kernel
theorem dX11_feed_42 : decode cX11_feed 42 = .ok (.aload_n 0, 1) := by decide +kernel
theorem dX11_feed_43 : decode cX11_feed 43 = .ok (.getfield 69, 3) := by decide +kernel
theorem dX11_feed_46 : decode cX11_feed 46 = .ok (.ireturn, 1) := by decide +kernel
theorem dX11_putBytes_0 : decode cX11_putBytes 0 = .ok (.bipush 24, 2) := by decide +kernel
theorem dX11_putBytes_2 : decode cX11_putBytes 2 = .ok (.istore_n 2, 1) := by decide +kernel
theorem dX11_putBytes_3 : decode cX11_putBytes 3 = .ok (.iload_n 2, 1) := by decide +kernel
theorem dX11_putBytes_4 : decode cX11_putBytes 4 = .ok (.ifCond .lt 45, 3) := by decide +kernel
theorem dX11_putBytes_7 : decode cX11_putBytes 7 = .ok (.aload_n 0, 1) := by decide +kernel
theorem dX11_putBytes_8 : decode cX11_putBytes 8 = .ok (.getfield 69, 3) := by decide +kernel
theorem dX11_putBytes_11 : decode cX11_putBytes 11 = .ok (.sipush 400, 3) := by decide +kernel
theorem dX11_putBytes_14 : decode cX11_putBytes 14 = .ok (.if_icmp .ge 29, 3) := by decide +kernel
theorem dX11_putBytes_17 : decode cX11_putBytes 17 = .ok (.aload_n 0, 1) := by decide +kernel
theorem dX11_putBytes_18 : decode cX11_putBytes 18 = .ok (.getfield 9, 3) := by decide +kernel
theorem dX11_putBytes_21 : decode cX11_putBytes 21 = .ok (.aload_n 0, 1) := by decide +kernel
theorem dX11_putBytes_22 : decode cX11_putBytes 22 = .ok (.getfield 69, 3) := by decide +kernel
theorem dX11_putBytes_25 : decode cX11_putBytes 25 = .ok (.iload_n 1, 1) := by decide +kernel
theorem dX11_putBytes_26 : decode cX11_putBytes 26 = .ok (.iload_n 2, 1) := by decide +kernel
theorem dX11_putBytes_27 : decode cX11_putBytes 27 = .ok (.iushr, 1) := by decide +kernel
theorem dX11_putBytes_28 : decode cX11_putBytes 28 = .ok (.sipush 255, 3) := by decide +kernel
theorem dX11_putBytes_31 : decode cX11_putBytes 31 = .ok (.iand, 1) := by decide +kernel
theorem dX11_putBytes_32 : decode cX11_putBytes 32 = .ok (.iastore, 1) := by decide +kernel
theorem dX11_putBytes_33 : decode cX11_putBytes 33 = .ok (.aload_n 0, 1) := by decide +kernel
theorem dX11_putBytes_34 : decode cX11_putBytes 34 = .ok (.dup, 1) := by decide +kernel
theorem dX11_putBytes_35 : decode cX11_putBytes 35 = .ok (.getfield 69, 3) := by decide +kernel
theorem dX11_putBytes_38 : decode cX11_putBytes 38 = .ok (.iconst 1, 1) := by decide +kernel
theorem dX11_putBytes_39 : decode cX11_putBytes 39 = .ok (.iadd, 1) := by decide +kernel
theorem dX11_putBytes_40 : decode cX11_putBytes 40 = .ok (.putfield 69, 3) := by decide +kernel
theorem dX11_putBytes_43 : decode cX11_putBytes 43 = .ok (.iinc 2 (-8), 3) := by decide +kernel
theorem dX11_putBytes_46 : decode cX11_putBytes 46 = .ok (.goto (-43), 3) := by decide +kernel
theorem dX11_putBytes_49 : decode cX11_putBytes 49 = .ok (.return_, 1) := by decide +kernel
theorem dX11_end_0 : decode cX11_end 0 = .ok (.iload_n 1, 1) := by decide +kernel
theorem dX11_end_1 : decode cX11_end 1 = .ok (.ifCond .lt 11, 3) := by decide +kernel
theorem dX11_end_4 : decode cX11_end 4 = .ok (.iload_n 1, 1) := by decide +kernel
theorem dX11_end_5 : decode cX11_end 5 = .ok (.aload_n 0, 1) := by decide +kernel
theorem dX11_end_6 : decode cX11_end 6 = .ok (.getfield 69, 3) := by decide +kernel
theorem dX11_end_9 : decode cX11_end 9 = .ok (.if_icmp .le 5, 3) := by decide +kernel
theorem dX11_end_12 : decode cX11_end 12 = .ok (.iconst (-1), 1) := by decide +kernel
theorem dX11_end_13 : decode cX11_end 13 = .ok (.ireturn, 1) := by decide +kernel
theorem dX11_end_14 : decode cX11_end 14 = .ok (.aload_n 0, 1) := by decide +kernel
theorem dX11_end_15 : decode cX11_end 15 = .ok (.iload_n 1, 1) := by decide +kernel
theorem dX11_end_16 : decode cX11_end 16 = .ok (.putfield 69, 3) := by decide +kernel
theorem dX11_end_19 : decode cX11_end 19 = .ok (.iload_n 1, 1) := by decide +kernel
theorem dX11_end_20 : decode cX11_end 20 = .ok (.ireturn, 1) := by decide +kernel
set_option maxRecDepth 20000 in
theorem ggX11_corner_X7_init : GoodIn wsX11_corner wsX7_init := goodIn_r _ [14, 15, 16, 17, 18, 19, 20, 21, 22, 23, 209, 210, 211, 212, 213, 214, 215, 216] (by decide +kernel) (by decide +kernel)
set_option maxRecDepth 20000 in
theorem gX11_corner_X7_init : GoodIn wsX11_corner (wsX7_init) := ggX11_corner_X7_init
set_option maxRecDepth 20000 in
theorem ggX11_corner_X2_init : GoodIn wsX11_corner wsX2_init := goodIn_r _ [26, 27, 16, 17, 28, 29, 229, 230] (by decide +kernel) (by decide +kernel)
set_option maxRecDepth 20000 in
theorem gX11_corner_X2_init : GoodIn wsX11_corner (wsX2_init) := ggX11_corner_X2_init
set_option maxRecDepth 20000 in
theorem ggX11_corner_X2_read : GoodIn wsX11_corner wsX2_read := goodIn_r _ [33, 29, 34, 35, 36, 37, 28, 38, 39, 21, 40, 41, 42, 43, 44, 3, 45, 46, 47, 23, 18, 48, 49, 50, 51, 52, 53, 54, 55, 56, 57, 58, 59, 60, 61, 62, 63, 64, 65, 66, 67, 68, 69, 70, 71, 8, 72, 73, 74, 75, 76, 77, 78, 79, 80, 81, 82, 83, 84, 85, 86, 87, 88, 89, 90, 91, 92, 93, 94, 95, 96, 97, 98, 99, 100, 101, 102, 103, 104, 105, 106, 107, 108, 109, 110, 111, 112, 113, 114, 115, 116, 117, 118, 119, 120, 121, 122, 123, 124, 125, 126, 127, 128, 129, 130, 131, 132, 133, 134, 135, 136, 137, 138, 139, 140, 141, 142, 143, 144, 145, 146, 147, 148, 149, 150, 151, 152, 153, 154, 155, 156, 157, 158, 159, 160, 161, 162, 163, 164, 165, 229, 230, 231, 232, 233, 234, 235, 236, 209, 210, 211, 212, 213, 214, 215, 216] (by decide +kernel) (by decide +kernel)
set_option maxRecDepth 20000 in
theorem gX11_corner_X2_read : GoodIn wsX11_corner (wsV RX11 87 RX2 yX2_read wsX2_read) := goodIn_app (goodIn_of _ (by decide +kernel)) ggX11_corner_X2_read
set_option maxRecDepth 20000 in
theorem ggX11_corner_X10_settleIn : GoodIn wsX11_corner wsX10_settleIn := goodIn_r _ [170, 171, 172, 173, 174, 175, 176, 177, 178, 179, 180, 181, 182, 183, 184, 185, 186, 187, 188, 189, 190, 191, 192, 193, 194, 195, 196, 197, 198, 199, 200, 201, 202, 203, 204, 205, 206, 207, 208, 237, 238, 239, 240, 241, 242, 243, 244, 245, 231, 232, 233, 234, 235, 236, 246, 247, 248, 249, 250, 251, 252, 253, 254, 255] (by decide +kernel) (by decide +kernel)
set_option maxRecDepth 20000 in
theorem gX11_corner_X10_settleIn : GoodIn wsX11_corner (wsV RX11 91 RX10 yX10_settleIn wsX10_settleIn) := goodIn_app (goodIn_of _ (by decide +kernel)) ggX11_corner_X10_settleIn
theorem dX11_corner_0 : decode cX11_corner 0 = .ok (.new 77, 3) := by decide +kernel
theorem dX11_corner_3 : decode cX11_corner 3 = .ok (.dup, 1) := by decide +kernel
theorem dX11_corner_4 : decode cX11_corner 4 = .ok (.aload_n 0, 1) := by decide +kernel
theorem dX11_corner_5 : decode cX11_corner 5 = .ok (.getfield 9, 3) := by decide +kernel
theorem dX11_corner_8 : decode cX11_corner 8 = .ok (.aload_n 0, 1) := by decide +kernel
theorem dX11_corner_9 : decode cX11_corner 9 = .ok (.getfield 69, 3) := by decide +kernel
theorem dX11_corner_12 : decode cX11_corner 12 = .ok (.invokespecial 79, 3) := by decide +kernel
theorem dX11_corner_15 : decode cX11_corner 15 = .ok (.astore_n 1, 1) := by decide +kernel
theorem dX11_corner_16 : decode cX11_corner 16 = .ok (.aload_n 0, 1) := by decide +kernel
theorem dX11_corner_17 : decode cX11_corner 17 = .ok (.iconst 0, 1) := by decide +kernel
theorem dX11_corner_18 : decode cX11_corner 18 = .ok (.putfield 69, 3) := by decide +kernel
theorem dX11_corner_21 : decode cX11_corner 21 = .ok (.new 82, 3) := by decide +kernel
theorem dX11_corner_24 : decode cX11_corner 24 = .ok (.dup, 1) := by decide +kernel
theorem dX11_corner_25 : decode cX11_corner 25 = .ok (.aload_n 1, 1) := by decide +kernel
theorem dX11_corner_26 : decode cX11_corner 26 = .ok (.aload_n 0, 1) := by decide +kernel
theorem dX11_corner_27 : decode cX11_corner 27 = .ok (.getfield 33, 3) := by decide +kernel
theorem dX11_corner_30 : decode cX11_corner 30 = .ok (.invokespecial 84, 3) := by decide +kernel
theorem dX11_corner_33 : decode cX11_corner 33 = .ok (.invokevirtual 87, 3) := by decide +kernel
theorem dX11_corner_36 : decode cX11_corner 36 = .ok (.istore_n 2, 1) := by decide +kernel
theorem dX11_corner_37 : decode cX11_corner 37 = .ok (.iload_n 2, 1) := by decide +kernel
theorem dX11_corner_38 : decode cX11_corner 38 = .ok (.ifCond .eq 8, 3) := by decide +kernel
theorem dX11_corner_41 : decode cX11_corner 41 = .ok (.bipush (-2), 2) := by decide +kernel
theorem dX11_corner_43 : decode cX11_corner 43 = .ok (.iload_n 2, 1) := by decide +kernel
theorem dX11_corner_44 : decode cX11_corner 44 = .ok (.isub, 1) := by decide +kernel
theorem dX11_corner_45 : decode cX11_corner 45 = .ok (.ireturn, 1) := by decide +kernel
theorem dX11_corner_46 : decode cX11_corner 46 = .ok (.aload_n 0, 1) := by decide +kernel
theorem dX11_corner_47 : decode cX11_corner 47 = .ok (.getfield 22, 3) := by decide +kernel
theorem dX11_corner_50 : decode cX11_corner 50 = .ok (.aload_n 0, 1) := by decide +kernel
theorem dX11_corner_51 : decode cX11_corner 51 = .ok (.getfield 33, 3) := by decide +kernel
theorem dX11_corner_54 : decode cX11_corner 54 = .ok (.invokevirtual 91, 3) := by decide +kernel
theorem dX11_corner_57 : decode cX11_corner 57 = .ok (.aload_n 0, 1) := by decide +kernel
theorem dX11_corner_58 : decode cX11_corner 58 = .ok (.getfield 33, 3) := by decide +kernel
theorem dX11_corner_61 : decode cX11_corner 61 = .ok (.getfield 95, 3) := by decide +kernel
theorem dX11_corner_64 : decode cX11_corner 64 = .ok (.ireturn, 1) := by decide +kernel
set_option maxRecDepth 20000 in
theorem ggX11_rule_X8_init : GoodIn wsX11_rule wsX8_init := goodIn_r _ [15, 16, 17, 18, 19, 20, 21, 22, 23, 24, 212, 213, 214, 215, 216, 217] (by decide +kernel) (by decide +kernel)
set_option maxRecDepth 20000 in
theorem gX11_rule_X8_init_n101 : GoodIn wsX11_rule (wsX8_init) := ggX11_rule_X8_init
set_option maxRecDepth 20000 in
theorem ggX11_rule_X7_init : GoodIn wsX11_rule wsX7_init := goodIn_r _ [27, 28, 17, 18, 29, 30, 31, 32, 33, 34, 218, 219, 220, 221, 222, 223, 224, 225] (by decide +kernel) (by decide +kernel)
set_option maxRecDepth 20000 in
theorem gX11_rule_X7_init : GoodIn wsX11_rule (wsX7_init) := ggX11_rule_X7_init
set_option maxRecDepth 20000 in
theorem ggX11_rule_X9_init : GoodIn wsX11_rule wsX9_init := goodIn_r _ [37, 38, 17, 18, 39, 40, 226, 227, 228] (by decide +kernel) (by decide +kernel)
set_option maxRecDepth 20000 in
theorem gX11_rule_X9_init : GoodIn wsX11_rule (wsX9_init) := ggX11_rule_X9_init
set_option maxRecDepth 20000 in
theorem ggX11_rule_X9_read : GoodIn wsX11_rule wsX9_read := goodIn_r _ [44, 40, 39, 45, 46, 47, 48, 5, 49, 50, 51, 52, 53, 54, 8, 55, 56, 57, 34, 29, 58, 59, 60, 61, 62, 63, 64, 65, 66, 67, 68, 69, 70, 71, 72, 73, 74, 75, 76, 77, 78, 79, 80, 81, 13, 82, 83, 84, 85, 86, 87, 88, 89, 90, 91, 92, 93, 94, 95, 96, 97, 98, 99, 100, 101, 102, 103, 104, 105, 106, 107, 108, 109, 110, 111, 112, 113, 114, 115, 116, 117, 118, 119, 120, 121, 122, 123, 124, 125, 126, 127, 128, 129, 130, 131, 132, 133, 134, 135, 136, 137, 138, 139, 140, 141, 142, 143, 144, 145, 146, 147, 148, 149, 150, 151, 152, 153, 154, 155, 156, 157, 22, 158, 159, 160, 161, 162, 163, 164, 165, 166, 167, 168, 169, 170, 171, 172, 173, 174, 175, 176, 177, 178, 179, 180, 181, 182, 183, 184, 185, 186, 187, 188, 189, 190, 191, 192, 193, 194, 20, 21, 195, 196, 197, 198, 199, 226, 227, 228, 218, 219, 220, 221, 222, 223, 224, 225, 212, 213, 214, 215, 216, 217] (by decide +kernel) (by decide +kernel)
set_option maxRecDepth 20000 in
theorem gX11_rule_X9_read : GoodIn wsX11_rule (wsV RX11 107 RX9 yX9_read wsX9_read) := goodIn_app (goodIn_of _ (by decide +kernel)) ggX11_rule_X9_read
theorem dX11_rule_0 : decode cX11_rule 0 = .ok (.aload_n 0, 1) := by decide +kernel
theorem dX11_rule_1 : decode cX11_rule 1 = .ok (.getfield 98, 3) := by decide +kernel
theorem dX11_rule_4 : decode cX11_rule 4 = .ok (.bipush 6, 2) := by decide +kernel
theorem dX11_rule_6 : decode cX11_rule 6 = .ok (.if_icmp .lt 5, 3) := by decide +kernel
theorem dX11_rule_9 : decode cX11_rule 9 = .ok (.iconst (-1), 1) := by decide +kernel
theorem dX11_rule_10 : decode cX11_rule 10 = .ok (.ireturn, 1) := by decide +kernel
theorem dX11_rule_11 : decode cX11_rule 11 = .ok (.aload_n 0, 1) := by decide +kernel
theorem dX11_rule_12 : decode cX11_rule 12 = .ok (.getfield 15, 3) := by decide +kernel
theorem dX11_rule_15 : decode cX11_rule 15 = .ok (.aload_n 0, 1) := by decide +kernel
theorem dX11_rule_16 : decode cX11_rule 16 = .ok (.getfield 98, 3) := by decide +kernel
theorem dX11_rule_19 : decode cX11_rule 19 = .ok (.aaload, 1) := by decide +kernel
theorem dX11_rule_20 : decode cX11_rule 20 = .ok (.ifnonnull 19, 3) := by decide +kernel
theorem dX11_rule_23 : decode cX11_rule 23 = .ok (.aload_n 0, 1) := by decide +kernel
theorem dX11_rule_24 : decode cX11_rule 24 = .ok (.getfield 15, 3) := by decide +kernel
theorem dX11_rule_27 : decode cX11_rule 27 = .ok (.aload_n 0, 1) := by decide +kernel
theorem dX11_rule_28 : decode cX11_rule 28 = .ok (.getfield 98, 3) := by decide +kernel
theorem dX11_rule_31 : decode cX11_rule 31 = .ok (.new 13, 3) := by decide +kernel
theorem dX11_rule_34 : decode cX11_rule 34 = .ok (.dup, 1) := by decide +kernel
theorem dX11_rule_35 : decode cX11_rule 35 = .ok (.invokespecial 101, 3) := by decide +kernel
theorem dX11_rule_38 : decode cX11_rule 38 = .ok (.aastore, 1) := by decide +kernel
theorem dX11_rule_39 : decode cX11_rule 39 = .ok (.new 77, 3) := by decide +kernel
theorem dX11_rule_42 : decode cX11_rule 42 = .ok (.dup, 1) := by decide +kernel
theorem dX11_rule_43 : decode cX11_rule 43 = .ok (.aload_n 0, 1) := by decide +kernel
theorem dX11_rule_44 : decode cX11_rule 44 = .ok (.getfield 9, 3) := by decide +kernel
theorem dX11_rule_47 : decode cX11_rule 47 = .ok (.aload_n 0, 1) := by decide +kernel
theorem dX11_rule_48 : decode cX11_rule 48 = .ok (.getfield 69, 3) := by decide +kernel
theorem dX11_rule_51 : decode cX11_rule 51 = .ok (.invokespecial 79, 3) := by decide +kernel
theorem dX11_rule_54 : decode cX11_rule 54 = .ok (.astore_n 1, 1) := by decide +kernel
theorem dX11_rule_55 : decode cX11_rule 55 = .ok (.aload_n 0, 1) := by decide +kernel
theorem dX11_rule_56 : decode cX11_rule 56 = .ok (.iconst 0, 1) := by decide +kernel
theorem dX11_rule_57 : decode cX11_rule 57 = .ok (.putfield 69, 3) := by decide +kernel
theorem dX11_rule_60 : decode cX11_rule 60 = .ok (.new 102, 3) := by decide +kernel
theorem dX11_rule_63 : decode cX11_rule 63 = .ok (.dup, 1) := by decide +kernel
theorem dX11_rule_64 : decode cX11_rule 64 = .ok (.aload_n 1, 1) := by decide +kernel
theorem dX11_rule_65 : decode cX11_rule 65 = .ok (.aload_n 0, 1) := by decide +kernel
theorem dX11_rule_66 : decode cX11_rule 66 = .ok (.getfield 15, 3) := by decide +kernel
theorem dX11_rule_69 : decode cX11_rule 69 = .ok (.aload_n 0, 1) := by decide +kernel
theorem dX11_rule_70 : decode cX11_rule 70 = .ok (.getfield 98, 3) := by decide +kernel
theorem dX11_rule_73 : decode cX11_rule 73 = .ok (.aaload, 1) := by decide +kernel
theorem dX11_rule_74 : decode cX11_rule 74 = .ok (.invokespecial 104, 3) := by decide +kernel
theorem dX11_rule_77 : decode cX11_rule 77 = .ok (.invokevirtual 107, 3) := by decide +kernel
theorem dX11_rule_80 : decode cX11_rule 80 = .ok (.istore_n 2, 1) := by decide +kernel
theorem dX11_rule_81 : decode cX11_rule 81 = .ok (.iload_n 2, 1) := by decide +kernel
theorem dX11_rule_82 : decode cX11_rule 82 = .ok (.ifCond .eq 8, 3) := by decide +kernel
theorem dX11_rule_85 : decode cX11_rule 85 = .ok (.bipush (-2), 2) := by decide +kernel
theorem dX11_rule_87 : decode cX11_rule 87 = .ok (.iload_n 2, 1) := by decide +kernel
theorem dX11_rule_88 : decode cX11_rule 88 = .ok (.isub, 1) := by decide +kernel
theorem dX11_rule_89 : decode cX11_rule 89 = .ok (.ireturn, 1) := by decide +kernel
theorem dX11_rule_90 : decode cX11_rule 90 = .ok (.aload_n 0, 1) := by decide +kernel
theorem dX11_rule_91 : decode cX11_rule 91 = .ok (.dup, 1) := by decide +kernel
theorem dX11_rule_92 : decode cX11_rule 92 = .ok (.getfield 98, 3) := by decide +kernel
theorem dX11_rule_95 : decode cX11_rule 95 = .ok (.iconst 1, 1) := by decide +kernel
theorem dX11_rule_96 : decode cX11_rule 96 = .ok (.iadd, 1) := by decide +kernel
theorem dX11_rule_97 : decode cX11_rule 97 = .ok (.putfield 98, 3) := by decide +kernel
theorem dX11_rule_100 : decode cX11_rule 100 = .ok (.aload_n 0, 1) := by decide +kernel
theorem dX11_rule_101 : decode cX11_rule 101 = .ok (.getfield 98, 3) := by decide +kernel
theorem dX11_rule_104 : decode cX11_rule 104 = .ok (.iconst 1, 1) := by decide +kernel
theorem dX11_rule_105 : decode cX11_rule 105 = .ok (.isub, 1) := by decide +kernel
theorem dX11_rule_106 : decode cX11_rule 106 = .ok (.ireturn, 1) := by decide +kernel
set_option maxRecDepth 20000 in
theorem ggX11_begin_X1_hasTune : GoodIn wsX11_begin wsX1_hasTune := goodIn_r _ [9, 10, 98, 99, 100, 101, 102, 103] (by decide +kernel) (by decide +kernel)
set_option maxRecDepth 20000 in
theorem gX11_begin_X1_hasTune : GoodIn wsX11_begin (wsV RX11 111 RX1 yX1_hasTune wsX1_hasTune) := goodIn_app (goodIn_of _ (by decide +kernel)) ggX11_begin_X1_hasTune
set_option maxRecDepth 20000 in
theorem ggX11_begin_X11_isSide : GoodIn wsX11_begin wsX11_isSide := goodIn_r _ [14] (by decide +kernel) (by decide +kernel)
set_option maxRecDepth 20000 in
theorem gX11_begin_X11_isSide : GoodIn wsX11_begin (va_wsS RX11 115 yX11_isSide wsX11_isSide) := goodIn_app (goodIn_of _ (by decide +kernel)) ggX11_begin_X11_isSide
set_option maxRecDepth 20000 in
theorem ggX11_begin_X6_start : GoodIn wsX11_begin wsX6_start := goodIn_r _ [19, 20, 21, 22, 23, 24, 25, 26, 18, 27, 28, 29, 30, 31, 32, 33, 34, 8, 35, 36, 37, 6, 7, 9, 10, 38, 39, 40, 41, 42, 43, 44, 45, 46, 47, 48, 49, 50, 51, 52, 53, 54, 55, 56, 57, 58, 59, 60, 61, 88, 89, 90, 91, 92, 93, 94, 95, 96, 97, 98, 99, 100, 101, 102, 103] (by decide +kernel) (by decide +kernel)
set_option maxRecDepth 20000 in
theorem gX11_begin_X6_start : GoodIn wsX11_begin (wsV RX11 121 RX6 yX6_start wsX6_start) := goodIn_app (goodIn_of _ (by decide +kernel)) ggX11_begin_X6_start
set_option maxRecDepth 20000 in
theorem ggX11_begin_X10_noteWinner : GoodIn wsX11_begin wsX10_noteWinner := goodIn_r _ [66, 67, 68, 69, 70, 83, 84, 85, 86, 87, 88, 89, 90, 91, 92, 93, 94, 95, 96, 97] (by decide +kernel) (by decide +kernel)
set_option maxRecDepth 20000 in
theorem gX11_begin_X10_noteWinner : GoodIn wsX11_begin (wsV RX11 125 RX10 yX10_noteWinner wsX10_noteWinner) := goodIn_app (goodIn_of _ (by decide +kernel)) ggX11_begin_X10_noteWinner
theorem dX11_begin_0 : decode cX11_begin 0 = .ok (.aload_n 0, 1) := by decide +kernel
theorem dX11_begin_1 : decode cX11_begin 1 = .ok (.getfield 22, 3) := by decide +kernel
theorem dX11_begin_4 : decode cX11_begin 4 = .ok (.getfield 108, 3) := by decide +kernel
theorem dX11_begin_7 : decode cX11_begin 7 = .ok (.iload_n 1, 1) := by decide +kernel
theorem dX11_begin_8 : decode cX11_begin 8 = .ok (.invokevirtual 111, 3) := by decide +kernel
theorem dX11_begin_11 : decode cX11_begin 11 = .ok (.ifCond .eq 10, 3) := by decide +kernel
theorem dX11_begin_14 : decode cX11_begin 14 = .ok (.iload_n 2, 1) := by decide +kernel
theorem dX11_begin_15 : decode cX11_begin 15 = .ok (.invokestatic 115, 3) := by decide +kernel
theorem dX11_begin_18 : decode cX11_begin 18 = .ok (.ifCond .ne 5, 3) := by decide +kernel
theorem dX11_begin_21 : decode cX11_begin 21 = .ok (.iconst (-1), 1) := by decide +kernel
theorem dX11_begin_22 : decode cX11_begin 22 = .ok (.ireturn, 1) := by decide +kernel
theorem dX11_begin_23 : decode cX11_begin 23 = .ok (.aload_n 0, 1) := by decide +kernel
theorem dX11_begin_24 : decode cX11_begin 24 = .ok (.getfield 22, 3) := by decide +kernel
theorem dX11_begin_27 : decode cX11_begin 27 = .ok (.getfield 118, 3) := by decide +kernel
theorem dX11_begin_30 : decode cX11_begin 30 = .ok (.aload_n 0, 1) := by decide +kernel
theorem dX11_begin_31 : decode cX11_begin 31 = .ok (.getfield 22, 3) := by decide +kernel
theorem dX11_begin_34 : decode cX11_begin 34 = .ok (.getfield 108, 3) := by decide +kernel
theorem dX11_begin_37 : decode cX11_begin 37 = .ok (.iload_n 1, 1) := by decide +kernel
theorem dX11_begin_38 : decode cX11_begin 38 = .ok (.iload_n 2, 1) := by decide +kernel
theorem dX11_begin_39 : decode cX11_begin 39 = .ok (.invokevirtual 121, 3) := by decide +kernel
theorem dX11_begin_42 : decode cX11_begin 42 = .ok (.aload_n 0, 1) := by decide +kernel
theorem dX11_begin_43 : decode cX11_begin 43 = .ok (.getfield 22, 3) := by decide +kernel
theorem dX11_begin_46 : decode cX11_begin 46 = .ok (.invokevirtual 125, 3) := by decide +kernel
theorem dX11_begin_49 : decode cX11_begin 49 = .ok (.aload_n 0, 1) := by decide +kernel
theorem dX11_begin_50 : decode cX11_begin 50 = .ok (.getfield 22, 3) := by decide +kernel
theorem dX11_begin_53 : decode cX11_begin 53 = .ok (.getfield 118, 3) := by decide +kernel
theorem dX11_begin_56 : decode cX11_begin 56 = .ok (.getfield 128, 3) := by decide +kernel
theorem dX11_begin_59 : decode cX11_begin 59 = .ok (.ireturn, 1) := by decide +kernel
set_option maxRecDepth 20000 in
theorem ggX11_speak_X1_hasWord : GoodIn wsX11_speak wsX1_hasWord := goodIn_r _ [9, 10, 88, 89, 90, 91, 92, 93] (by decide +kernel) (by decide +kernel)
set_option maxRecDepth 20000 in
theorem gX11_speak_X1_hasWord : GoodIn wsX11_speak (wsV RX11 131 RX1 yX1_hasWord wsX1_hasWord) := goodIn_app (goodIn_of _ (by decide +kernel)) ggX11_speak_X1_hasWord
set_option maxRecDepth 20000 in
theorem ggX11_speak_X6_maySay : GoodIn wsX11_speak wsX6_maySay := goodIn_r _ [15, 16, 17, 18, 19, 20, 21, 22, 8, 23, 10, 24, 25, 78, 79, 80, 81, 82, 83, 84, 85, 86, 87, 88, 89, 90, 91, 92, 93] (by decide +kernel) (by decide +kernel)
set_option maxRecDepth 20000 in
theorem gX11_speak_X6_maySay : GoodIn wsX11_speak (wsV RX11 134 RX6 yX6_maySay wsX6_maySay) := goodIn_app (goodIn_of _ (by decide +kernel)) ggX11_speak_X6_maySay
set_option maxRecDepth 20000 in
theorem ggX11_speak_X6_say : GoodIn wsX11_speak wsX6_say := goodIn_r _ [29, 19, 17, 18, 30, 31, 20, 21, 22, 8, 23, 10, 24, 25, 32, 33, 34, 14, 35, 36, 37, 38, 39, 16, 40, 41, 42, 43, 44, 45, 46, 47, 48, 49, 50, 51, 78, 79, 80, 81, 82, 83, 84, 85, 86, 87, 88, 89, 90, 91, 92, 93] (by decide +kernel) (by decide +kernel)
set_option maxRecDepth 20000 in
theorem gX11_speak_X6_say : GoodIn wsX11_speak (wsV RX11 138 RX6 yX6_say wsX6_say) := goodIn_app (goodIn_of _ (by decide +kernel)) ggX11_speak_X6_say
set_option maxRecDepth 20000 in
theorem ggX11_speak_X10_noteWinner : GoodIn wsX11_speak wsX10_noteWinner := goodIn_r _ [56, 57, 58, 59, 60, 73, 74, 75, 76, 77, 78, 79, 80, 81, 82, 83, 84, 85, 86, 87] (by decide +kernel) (by decide +kernel)
set_option maxRecDepth 20000 in
theorem gX11_speak_X10_noteWinner : GoodIn wsX11_speak (wsV RX11 125 RX10 yX10_noteWinner wsX10_noteWinner) := goodIn_app (goodIn_of _ (by decide +kernel)) ggX11_speak_X10_noteWinner
theorem dX11_speak_0 : decode cX11_speak 0 = .ok (.aload_n 0, 1) := by decide +kernel
theorem dX11_speak_1 : decode cX11_speak 1 = .ok (.getfield 22, 3) := by decide +kernel
theorem dX11_speak_4 : decode cX11_speak 4 = .ok (.getfield 108, 3) := by decide +kernel
theorem dX11_speak_7 : decode cX11_speak 7 = .ok (.iload_n 1, 1) := by decide +kernel
theorem dX11_speak_8 : decode cX11_speak 8 = .ok (.invokevirtual 131, 3) := by decide +kernel
theorem dX11_speak_11 : decode cX11_speak 11 = .ok (.ifCond .ne 5, 3) := by decide +kernel
theorem dX11_speak_14 : decode cX11_speak 14 = .ok (.iconst (-1), 1) := by decide +kernel
theorem dX11_speak_15 : decode cX11_speak 15 = .ok (.ireturn, 1) := by decide +kernel
theorem dX11_speak_16 : decode cX11_speak 16 = .ok (.aload_n 0, 1) := by decide +kernel
theorem dX11_speak_17 : decode cX11_speak 17 = .ok (.getfield 22, 3) := by decide +kernel
theorem dX11_speak_20 : decode cX11_speak 20 = .ok (.getfield 118, 3) := by decide +kernel
theorem dX11_speak_23 : decode cX11_speak 23 = .ok (.aload_n 0, 1) := by decide +kernel
theorem dX11_speak_24 : decode cX11_speak 24 = .ok (.getfield 22, 3) := by decide +kernel
theorem dX11_speak_27 : decode cX11_speak 27 = .ok (.getfield 108, 3) := by decide +kernel
theorem dX11_speak_30 : decode cX11_speak 30 = .ok (.iload_n 1, 1) := by decide +kernel
theorem dX11_speak_31 : decode cX11_speak 31 = .ok (.invokevirtual 134, 3) := by decide +kernel
theorem dX11_speak_34 : decode cX11_speak 34 = .ok (.ifCond .ne 6, 3) := by decide +kernel
theorem dX11_speak_37 : decode cX11_speak 37 = .ok (.bipush (-2), 2) := by decide +kernel
theorem dX11_speak_39 : decode cX11_speak 39 = .ok (.ireturn, 1) := by decide +kernel
theorem dX11_speak_40 : decode cX11_speak 40 = .ok (.aload_n 0, 1) := by decide +kernel
theorem dX11_speak_41 : decode cX11_speak 41 = .ok (.getfield 22, 3) := by decide +kernel
theorem dX11_speak_44 : decode cX11_speak 44 = .ok (.getfield 118, 3) := by decide +kernel
theorem dX11_speak_47 : decode cX11_speak 47 = .ok (.aload_n 0, 1) := by decide +kernel
theorem dX11_speak_48 : decode cX11_speak 48 = .ok (.getfield 22, 3) := by decide +kernel
theorem dX11_speak_51 : decode cX11_speak 51 = .ok (.getfield 108, 3) := by decide +kernel
theorem dX11_speak_54 : decode cX11_speak 54 = .ok (.iload_n 1, 1) := by decide +kernel
theorem dX11_speak_55 : decode cX11_speak 55 = .ok (.invokevirtual 138, 3) := by decide +kernel
theorem dX11_speak_58 : decode cX11_speak 58 = .ok (.aload_n 0, 1) := by decide +kernel
theorem dX11_speak_59 : decode cX11_speak 59 = .ok (.getfield 22, 3) := by decide +kernel
theorem dX11_speak_62 : decode cX11_speak 62 = .ok (.invokevirtual 125, 3) := by decide +kernel
theorem dX11_speak_65 : decode cX11_speak 65 = .ok (.aload_n 0, 1) := by decide +kernel
theorem dX11_speak_66 : decode cX11_speak 66 = .ok (.getfield 22, 3) := by decide +kernel
theorem dX11_speak_69 : decode cX11_speak 69 = .ok (.getfield 118, 3) := by decide +kernel
theorem dX11_speak_72 : decode cX11_speak 72 = .ok (.getfield 128, 3) := by decide +kernel
theorem dX11_speak_75 : decode cX11_speak 75 = .ok (.ireturn, 1) := by decide +kernel
set_option maxRecDepth 20000 in
theorem ggX11_toss_X6_mayThrow : GoodIn wsX11_toss wsX6_mayThrow := goodIn_r _ [9, 10, 11, 12, 13, 14, 70, 71, 72, 73, 74, 75, 76, 77, 78, 79] (by decide +kernel) (by decide +kernel)
set_option maxRecDepth 20000 in
theorem gX11_toss_X6_mayThrow : GoodIn wsX11_toss (wsV RX11 142 RX6 yX6_mayThrow wsX6_mayThrow) := goodIn_app (goodIn_of _ (by decide +kernel)) ggX11_toss_X6_mayThrow
set_option maxRecDepth 20000 in
theorem ggX11_toss_X6_throwPenny : GoodIn wsX11_toss wsX6_throwPenny := goodIn_r _ [18, 11, 12, 19, 13, 14, 20, 21, 22, 23, 8, 24, 25, 26, 6, 7, 9, 10, 27, 28, 29, 30, 31, 32, 33, 34, 35, 36, 37, 38, 39, 40, 41, 42, 43, 70, 71, 72, 73, 74, 75, 76, 77, 78, 79, 80, 81, 82, 83, 84, 85] (by decide +kernel) (by decide +kernel)
set_option maxRecDepth 20000 in
theorem gX11_toss_X6_throwPenny : GoodIn wsX11_toss (wsV RX11 146 RX6 yX6_throwPenny wsX6_throwPenny) := goodIn_app (goodIn_of _ (by decide +kernel)) ggX11_toss_X6_throwPenny
set_option maxRecDepth 20000 in
theorem ggX11_toss_X10_noteWinner : GoodIn wsX11_toss wsX10_noteWinner := goodIn_r _ [48, 49, 50, 51, 52, 65, 66, 67, 68, 69, 70, 71, 72, 73, 74, 75, 76, 77, 78, 79] (by decide +kernel) (by decide +kernel)
set_option maxRecDepth 20000 in
theorem gX11_toss_X10_noteWinner : GoodIn wsX11_toss (wsV RX11 125 RX10 yX10_noteWinner wsX10_noteWinner) := goodIn_app (goodIn_of _ (by decide +kernel)) ggX11_toss_X10_noteWinner
theorem dX11_toss_0 : decode cX11_toss 0 = .ok (.aload_n 0, 1) := by decide +kernel
theorem dX11_toss_1 : decode cX11_toss 1 = .ok (.getfield 22, 3) := by decide +kernel
theorem dX11_toss_4 : decode cX11_toss 4 = .ok (.getfield 118, 3) := by decide +kernel
theorem dX11_toss_7 : decode cX11_toss 7 = .ok (.invokevirtual 142, 3) := by decide +kernel
theorem dX11_toss_10 : decode cX11_toss 10 = .ok (.ifCond .ne 6, 3) := by decide +kernel
theorem dX11_toss_13 : decode cX11_toss 13 = .ok (.bipush (-2), 2) := by decide +kernel
theorem dX11_toss_15 : decode cX11_toss 15 = .ok (.ireturn, 1) := by decide +kernel
theorem dX11_toss_16 : decode cX11_toss 16 = .ok (.aload_n 0, 1) := by decide +kernel
theorem dX11_toss_17 : decode cX11_toss 17 = .ok (.getfield 22, 3) := by decide +kernel
theorem dX11_toss_20 : decode cX11_toss 20 = .ok (.getfield 118, 3) := by decide +kernel
theorem dX11_toss_23 : decode cX11_toss 23 = .ok (.aload_n 0, 1) := by decide +kernel
theorem dX11_toss_24 : decode cX11_toss 24 = .ok (.getfield 22, 3) := by decide +kernel
theorem dX11_toss_27 : decode cX11_toss 27 = .ok (.getfield 108, 3) := by decide +kernel
theorem dX11_toss_30 : decode cX11_toss 30 = .ok (.invokevirtual 146, 3) := by decide +kernel
theorem dX11_toss_33 : decode cX11_toss 33 = .ok (.aload_n 0, 1) := by decide +kernel
theorem dX11_toss_34 : decode cX11_toss 34 = .ok (.getfield 22, 3) := by decide +kernel
theorem dX11_toss_37 : decode cX11_toss 37 = .ok (.invokevirtual 125, 3) := by decide +kernel
theorem dX11_toss_40 : decode cX11_toss 40 = .ok (.aload_n 0, 1) := by decide +kernel
theorem dX11_toss_41 : decode cX11_toss 41 = .ok (.getfield 22, 3) := by decide +kernel
theorem dX11_toss_44 : decode cX11_toss 44 = .ok (.getfield 118, 3) := by decide +kernel
theorem dX11_toss_47 : decode cX11_toss 47 = .ok (.getfield 128, 3) := by decide +kernel
theorem dX11_toss_50 : decode cX11_toss 50 = .ok (.ireturn, 1) := by decide +kernel
set_option maxRecDepth 20000 in
theorem ggX11_still_X6_beStill : GoodIn wsX11_still wsX6_beStill := goodIn_r _ [9, 10, 11, 12, 13, 8, 14, 15, 16, 17, 44, 45, 46, 47, 48, 49, 50, 51, 52, 53] (by decide +kernel) (by decide +kernel)
set_option maxRecDepth 20000 in
theorem gX11_still_X6_beStill : GoodIn wsX11_still (wsV RX11 153 RX6 yX6_beStill wsX6_beStill) := goodIn_app (goodIn_of _ (by decide +kernel)) ggX11_still_X6_beStill
set_option maxRecDepth 20000 in
theorem ggX11_still_X10_noteWinner : GoodIn wsX11_still wsX10_noteWinner := goodIn_r _ [22, 23, 24, 25, 26, 39, 40, 41, 42, 43, 44, 45, 46, 47, 48, 49, 50, 51, 52, 53] (by decide +kernel) (by decide +kernel)
set_option maxRecDepth 20000 in
theorem gX11_still_X10_noteWinner : GoodIn wsX11_still (wsV RX11 125 RX10 yX10_noteWinner wsX10_noteWinner) := goodIn_app (goodIn_of _ (by decide +kernel)) ggX11_still_X10_noteWinner
theorem dX11_still_0 : decode cX11_still 0 = .ok (.aload_n 0, 1) := by decide +kernel
theorem dX11_still_1 : decode cX11_still 1 = .ok (.getfield 22, 3) := by decide +kernel
theorem dX11_still_4 : decode cX11_still 4 = .ok (.getfield 118, 3) := by decide +kernel
theorem dX11_still_7 : decode cX11_still 7 = .ok (.getfield 149, 3) := by decide +kernel
theorem dX11_still_10 : decode cX11_still 10 = .ok (.ifCond .ne 6, 3) := by decide +kernel
theorem dX11_still_13 : decode cX11_still 13 = .ok (.bipush (-2), 2) := by decide +kernel
theorem dX11_still_15 : decode cX11_still 15 = .ok (.ireturn, 1) := by decide +kernel
theorem dX11_still_16 : decode cX11_still 16 = .ok (.aload_n 0, 1) := by decide +kernel
theorem dX11_still_17 : decode cX11_still 17 = .ok (.getfield 22, 3) := by decide +kernel
theorem dX11_still_20 : decode cX11_still 20 = .ok (.getfield 118, 3) := by decide +kernel
theorem dX11_still_23 : decode cX11_still 23 = .ok (.invokevirtual 153, 3) := by decide +kernel
theorem dX11_still_26 : decode cX11_still 26 = .ok (.aload_n 0, 1) := by decide +kernel
theorem dX11_still_27 : decode cX11_still 27 = .ok (.getfield 22, 3) := by decide +kernel
theorem dX11_still_30 : decode cX11_still 30 = .ok (.invokevirtual 125, 3) := by decide +kernel
theorem dX11_still_33 : decode cX11_still 33 = .ok (.aload_n 0, 1) := by decide +kernel
theorem dX11_still_34 : decode cX11_still 34 = .ok (.getfield 22, 3) := by decide +kernel
theorem dX11_still_37 : decode cX11_still 37 = .ok (.getfield 118, 3) := by decide +kernel
theorem dX11_still_40 : decode cX11_still 40 = .ok (.getfield 156, 3) := by decide +kernel
theorem dX11_still_43 : decode cX11_still 43 = .ok (.ireturn, 1) := by decide +kernel
set_option maxRecDepth 20000 in
theorem ggX11_run_X11_isRuleOrNone : GoodIn wsX11_run wsX11_isRuleOrNone := goodIn_r _ [10, 11, 12, 13, 9, 14, 15, 16, 111, 112, 113, 114, 115, 116, 117, 118, 119, 120, 121, 122] (by decide +kernel) (by decide +kernel)
set_option maxRecDepth 20000 in
theorem gX11_run_X11_isRuleOrNone : GoodIn wsX11_run (wsV RX11 159 RX11 yX11_isRuleOrNone wsX11_isRuleOrNone) := goodIn_app (goodIn_of _ (by decide +kernel)) ggX11_run_X11_isRuleOrNone
set_option maxRecDepth 20000 in
theorem ggX11_run_X11_ruleAt : GoodIn wsX11_run wsX11_ruleAt := goodIn_r _ [14, 15, 16, 111, 112, 113, 114, 115, 116, 117, 118, 119, 120, 121, 122] (by decide +kernel) (by decide +kernel)
set_option maxRecDepth 20000 in
theorem gX11_run_X11_ruleAt : GoodIn wsX11_run (wsV RX11 162 RX11 yX11_ruleAt wsX11_ruleAt) := goodIn_app (goodIn_of _ (by decide +kernel)) ggX11_run_X11_ruleAt
set_option maxRecDepth 20000 in
theorem ggX11_run_X6_goByRules : GoodIn wsX11_run wsX6_goByRules := goodIn_r _ [21, 22, 23, 24, 25, 26, 27, 28, 29, 30, 31, 32, 33, 34, 35, 36, 37, 20, 38, 39, 40, 41, 42, 43, 44, 45, 46, 47, 48, 49, 50, 51, 52, 53, 54, 55, 56, 57, 58, 59, 60, 61, 62, 63, 64, 65, 66, 67, 68, 69, 70, 71, 72, 73, 74, 75, 76, 77, 78, 79, 80, 81, 82, 83, 84, 85, 86, 87, 88, 89, 90, 91, 92, 93, 94, 95, 96, 97, 98, 99, 100, 101, 128, 129, 130, 131, 132, 133, 134, 135, 136, 137, 138, 139, 140, 141, 142, 143, 144, 145, 146, 147, 148, 149] (by decide +kernel) (by decide +kernel)
set_option maxRecDepth 20000 in
theorem gX11_run_X6_goByRules : GoodIn wsX11_run (wsV RX11 166 RX6 yX6_goByRules wsX6_goByRules) := goodIn_app (goodIn_of _ (by decide +kernel)) ggX11_run_X6_goByRules
set_option maxRecDepth 20000 in
theorem ggX11_run_X10_noteWinner : GoodIn wsX11_run wsX10_noteWinner := goodIn_r _ [106, 107, 108, 109, 110, 123, 124, 125, 126, 127, 128, 129, 130, 131, 132, 133, 134, 135, 136, 137] (by decide +kernel) (by decide +kernel)
set_option maxRecDepth 20000 in
theorem gX11_run_X10_noteWinner : GoodIn wsX11_run (wsV RX11 125 RX10 yX10_noteWinner wsX10_noteWinner) := goodIn_app (goodIn_of _ (by decide +kernel)) ggX11_run_X10_noteWinner
theorem dX11_run_0 : decode cX11_run 0 = .ok (.aload_n 0, 1) := by decide +kernel
theorem dX11_run_1 : decode cX11_run 1 = .ok (.getfield 22, 3) := by decide +kernel
theorem dX11_run_4 : decode cX11_run 4 = .ok (.getfield 118, 3) := by decide +kernel
theorem dX11_run_7 : decode cX11_run 7 = .ok (.getfield 149, 3) := by decide +kernel
theorem dX11_run_10 : decode cX11_run 10 = .ok (.ifCond .eq 19, 3) := by decide +kernel
theorem dX11_run_13 : decode cX11_run 13 = .ok (.aload_n 0, 1) := by decide +kernel
theorem dX11_run_14 : decode cX11_run 14 = .ok (.iload_n 1, 1) := by decide +kernel
theorem dX11_run_15 : decode cX11_run 15 = .ok (.invokevirtual 159, 3) := by decide +kernel
theorem dX11_run_18 : decode cX11_run 18 = .ok (.ifCond .eq 11, 3) := by decide +kernel
theorem dX11_run_21 : decode cX11_run 21 = .ok (.aload_n 0, 1) := by decide +kernel
theorem dX11_run_22 : decode cX11_run 22 = .ok (.iload_n 2, 1) := by decide +kernel
theorem dX11_run_23 : decode cX11_run 23 = .ok (.invokevirtual 159, 3) := by decide +kernel
theorem dX11_run_26 : decode cX11_run 26 = .ok (.ifCond .ne 6, 3) := by decide +kernel
theorem dX11_run_29 : decode cX11_run 29 = .ok (.bipush (-2), 2) := by decide +kernel
theorem dX11_run_31 : decode cX11_run 31 = .ok (.ireturn, 1) := by decide +kernel
theorem dX11_run_32 : decode cX11_run 32 = .ok (.aload_n 0, 1) := by decide +kernel
theorem dX11_run_33 : decode cX11_run 33 = .ok (.getfield 22, 3) := by decide +kernel
theorem dX11_run_36 : decode cX11_run 36 = .ok (.getfield 118, 3) := by decide +kernel
theorem dX11_run_39 : decode cX11_run 39 = .ok (.aload_n 0, 1) := by decide +kernel
theorem dX11_run_40 : decode cX11_run 40 = .ok (.getfield 22, 3) := by decide +kernel
theorem dX11_run_43 : decode cX11_run 43 = .ok (.getfield 108, 3) := by decide +kernel
theorem dX11_run_46 : decode cX11_run 46 = .ok (.aload_n 0, 1) := by decide +kernel
theorem dX11_run_47 : decode cX11_run 47 = .ok (.iload_n 1, 1) := by decide +kernel
theorem dX11_run_48 : decode cX11_run 48 = .ok (.invokevirtual 162, 3) := by decide +kernel
theorem dX11_run_51 : decode cX11_run 51 = .ok (.aload_n 0, 1) := by decide +kernel
theorem dX11_run_52 : decode cX11_run 52 = .ok (.iload_n 2, 1) := by decide +kernel
theorem dX11_run_53 : decode cX11_run 53 = .ok (.invokevirtual 162, 3) := by decide +kernel
theorem dX11_run_56 : decode cX11_run 56 = .ok (.invokevirtual 166, 3) := by decide +kernel
theorem dX11_run_59 : decode cX11_run 59 = .ok (.aload_n 0, 1) := by decide +kernel
theorem dX11_run_60 : decode cX11_run 60 = .ok (.getfield 22, 3) := by decide +kernel
theorem dX11_run_63 : decode cX11_run 63 = .ok (.invokevirtual 125, 3) := by decide +kernel
theorem dX11_run_66 : decode cX11_run 66 = .ok (.aload_n 0, 1) := by decide +kernel
theorem dX11_run_67 : decode cX11_run 67 = .ok (.getfield 22, 3) := by decide +kernel
theorem dX11_run_70 : decode cX11_run 70 = .ok (.getfield 118, 3) := by decide +kernel
theorem dX11_run_73 : decode cX11_run 73 = .ok (.getfield 156, 3) := by decide +kernel
theorem dX11_run_76 : decode cX11_run 76 = .ok (.ireturn, 1) := by decide +kernel
set_option maxRecDepth 20000 in
theorem ggX11_would_X11_isRuleOrNone : GoodIn wsX11_would wsX11_isRuleOrNone := goodIn_r _ [14, 15, 16, 17, 13, 18, 19, 20, 114, 115, 116, 117, 118, 119, 120, 121, 122, 123, 124, 125] (by decide +kernel) (by decide +kernel)
set_option maxRecDepth 20000 in
theorem gX11_would_X11_isRuleOrNone : GoodIn wsX11_would (wsV RX11 159 RX11 yX11_isRuleOrNone wsX11_isRuleOrNone) := goodIn_app (goodIn_of _ (by decide +kernel)) ggX11_would_X11_isRuleOrNone
set_option maxRecDepth 20000 in
theorem ggX11_would_X6_copyFrom : GoodIn wsX11_would wsX6_copyFrom := goodIn_r _ [25, 26, 27, 28, 29, 30, 31, 32, 33, 34, 35, 36, 37, 38, 39, 131, 132, 133, 134, 135, 136, 137, 138, 139, 140] (by decide +kernel) (by decide +kernel)
set_option maxRecDepth 20000 in
theorem gX11_would_X6_copyFrom : GoodIn wsX11_would (wsV RX11 170 RX6 yX6_copyFrom wsX6_copyFrom) := goodIn_app (goodIn_of _ (by decide +kernel)) ggX11_would_X6_copyFrom
set_option maxRecDepth 20000 in
theorem ggX11_would_X11_ruleAt : GoodIn wsX11_would wsX11_ruleAt := goodIn_r _ [18, 19, 20, 114, 115, 116, 117, 118, 119, 120, 121, 122, 123, 124, 125] (by decide +kernel) (by decide +kernel)
set_option maxRecDepth 20000 in
theorem gX11_would_X11_ruleAt : GoodIn wsX11_would (wsV RX11 162 RX11 yX11_ruleAt wsX11_ruleAt) := goodIn_app (goodIn_of _ (by decide +kernel)) ggX11_would_X11_ruleAt
set_option maxRecDepth 20000 in
theorem ggX11_would_X6_goByRules : GoodIn wsX11_would wsX6_goByRules := goodIn_r _ [43, 26, 29, 44, 45, 46, 47, 48, 49, 50, 51, 52, 53, 54, 55, 56, 57, 24, 58, 33, 28, 27, 59, 60, 61, 62, 38, 63, 64, 65, 66, 67, 68, 69, 70, 71, 72, 73, 74, 75, 76, 77, 78, 79, 80, 81, 39, 30, 82, 83, 84, 85, 86, 87, 88, 89, 90, 91, 92, 93, 94, 95, 32, 96, 97, 98, 99, 31, 100, 101, 102, 103, 104, 105, 106, 107, 108, 109, 110, 111, 112, 113, 131, 132, 133, 134, 135, 136, 137, 138, 139, 140, 141, 142, 143, 144, 145, 146, 147, 148, 149, 150, 151, 152] (by decide +kernel) (by decide +kernel)
set_option maxRecDepth 20000 in
theorem gX11_would_X6_goByRules : GoodIn wsX11_would (wsV RX11 166 RX6 yX6_goByRules wsX6_goByRules) := goodIn_app (goodIn_of _ (by decide +kernel)) ggX11_would_X6_goByRules
theorem dX11_would_0 : decode cX11_would 0 = .ok (.aload_n 0, 1) := by decide +kernel
theorem dX11_would_1 : decode cX11_would 1 = .ok (.getfield 22, 3) := by decide +kernel
theorem dX11_would_4 : decode cX11_would 4 = .ok (.getfield 118, 3) := by decide +kernel
theorem dX11_would_7 : decode cX11_would 7 = .ok (.getfield 149, 3) := by decide +kernel
theorem dX11_would_10 : decode cX11_would 10 = .ok (.ifCond .eq 19, 3) := by decide +kernel
theorem dX11_would_13 : decode cX11_would 13 = .ok (.aload_n 0, 1) := by decide +kernel
theorem dX11_would_14 : decode cX11_would 14 = .ok (.iload_n 1, 1) := by decide +kernel
theorem dX11_would_15 : decode cX11_would 15 = .ok (.invokevirtual 159, 3) := by decide +kernel
theorem dX11_would_18 : decode cX11_would 18 = .ok (.ifCond .eq 11, 3) := by decide +kernel
theorem dX11_would_21 : decode cX11_would 21 = .ok (.aload_n 0, 1) := by decide +kernel
theorem dX11_would_22 : decode cX11_would 22 = .ok (.iload_n 2, 1) := by decide +kernel
theorem dX11_would_23 : decode cX11_would 23 = .ok (.invokevirtual 159, 3) := by decide +kernel
theorem dX11_would_26 : decode cX11_would 26 = .ok (.ifCond .ne 6, 3) := by decide +kernel
theorem dX11_would_29 : decode cX11_would 29 = .ok (.bipush (-2), 2) := by decide +kernel
theorem dX11_would_31 : decode cX11_would 31 = .ok (.ireturn, 1) := by decide +kernel
theorem dX11_would_32 : decode cX11_would 32 = .ok (.iload_n 3, 1) := by decide +kernel
theorem dX11_would_33 : decode cX11_would 33 = .ok (.ifCond .lt 8, 3) := by decide +kernel
theorem dX11_would_36 : decode cX11_would 36 = .ok (.iload_n 3, 1) := by decide +kernel
theorem dX11_would_37 : decode cX11_would 37 = .ok (.iconst 3, 1) := by decide +kernel
theorem dX11_would_38 : decode cX11_would 38 = .ok (.if_icmp .le 6, 3) := by decide +kernel
theorem dX11_would_41 : decode cX11_would 41 = .ok (.bipush (-2), 2) := by decide +kernel
theorem dX11_would_43 : decode cX11_would 43 = .ok (.ireturn, 1) := by decide +kernel
theorem dX11_would_44 : decode cX11_would 44 = .ok (.aload_n 0, 1) := by decide +kernel
theorem dX11_would_45 : decode cX11_would 45 = .ok (.getfield 40, 3) := by decide +kernel
theorem dX11_would_48 : decode cX11_would 48 = .ok (.aload_n 0, 1) := by decide +kernel
theorem dX11_would_49 : decode cX11_would 49 = .ok (.getfield 22, 3) := by decide +kernel
theorem dX11_would_52 : decode cX11_would 52 = .ok (.getfield 118, 3) := by decide +kernel
theorem dX11_would_55 : decode cX11_would 55 = .ok (.invokevirtual 170, 3) := by decide +kernel
theorem dX11_would_58 : decode cX11_would 58 = .ok (.aload_n 0, 1) := by decide +kernel
theorem dX11_would_59 : decode cX11_would 59 = .ok (.getfield 40, 3) := by decide +kernel
theorem dX11_would_62 : decode cX11_would 62 = .ok (.aload_n 0, 1) := by decide +kernel
theorem dX11_would_63 : decode cX11_would 63 = .ok (.getfield 22, 3) := by decide +kernel
theorem dX11_would_66 : decode cX11_would 66 = .ok (.getfield 108, 3) := by decide +kernel
theorem dX11_would_69 : decode cX11_would 69 = .ok (.aload_n 0, 1) := by decide +kernel
theorem dX11_would_70 : decode cX11_would 70 = .ok (.iload_n 1, 1) := by decide +kernel
theorem dX11_would_71 : decode cX11_would 71 = .ok (.invokevirtual 162, 3) := by decide +kernel
theorem dX11_would_74 : decode cX11_would 74 = .ok (.aload_n 0, 1) := by decide +kernel
theorem dX11_would_75 : decode cX11_would 75 = .ok (.iload_n 2, 1) := by decide +kernel
theorem dX11_would_76 : decode cX11_would 76 = .ok (.invokevirtual 162, 3) := by decide +kernel
theorem dX11_would_79 : decode cX11_would 79 = .ok (.invokevirtual 166, 3) := by decide +kernel
theorem dX11_would_82 : decode cX11_would 82 = .ok (.iload_n 3, 1) := by decide +kernel
theorem dX11_would_83 : decode cX11_would 83 = .ok (.tableswitch 71 0 2 #[25, 33, 52], 25) := by decide +kernel
theorem dX11_would_108 : decode cX11_would 108 = .ok (.aload_n 0, 1) := by decide +kernel
theorem dX11_would_109 : decode cX11_would 109 = .ok (.getfield 40, 3) := by decide +kernel
theorem dX11_would_112 : decode cX11_would 112 = .ok (.getfield 156, 3) := by decide +kernel
theorem dX11_would_115 : decode cX11_would 115 = .ok (.ireturn, 1) := by decide +kernel
theorem dX11_would_116 : decode cX11_would 116 = .ok (.aload_n 0, 1) := by decide +kernel
theorem dX11_would_117 : decode cX11_would 117 = .ok (.getfield 40, 3) := by decide +kernel
theorem dX11_would_120 : decode cX11_would 120 = .ok (.getfield 174, 3) := by decide +kernel
theorem dX11_would_123 : decode cX11_would 123 = .ok (.aload_n 0, 1) := by decide +kernel
theorem dX11_would_124 : decode cX11_would 124 = .ok (.getfield 22, 3) := by decide +kernel
theorem dX11_would_127 : decode cX11_would 127 = .ok (.getfield 118, 3) := by decide +kernel
theorem dX11_would_130 : decode cX11_would 130 = .ok (.getfield 174, 3) := by decide +kernel
theorem dX11_would_133 : decode cX11_would 133 = .ok (.isub, 1) := by decide +kernel
theorem dX11_would_134 : decode cX11_would 134 = .ok (.ireturn, 1) := by decide +kernel
theorem dX11_would_135 : decode cX11_would 135 = .ok (.aload_n 0, 1) := by decide +kernel
theorem dX11_would_136 : decode cX11_would 136 = .ok (.getfield 40, 3) := by decide +kernel
theorem dX11_would_139 : decode cX11_would 139 = .ok (.getfield 177, 3) := by decide +kernel
theorem dX11_would_142 : decode cX11_would 142 = .ok (.aload_n 0, 1) := by decide +kernel
theorem dX11_would_143 : decode cX11_would 143 = .ok (.getfield 22, 3) := by decide +kernel
theorem dX11_would_146 : decode cX11_would 146 = .ok (.getfield 118, 3) := by decide +kernel
theorem dX11_would_149 : decode cX11_would 149 = .ok (.getfield 177, 3) := by decide +kernel
theorem dX11_would_152 : decode cX11_would 152 = .ok (.isub, 1) := by decide +kernel
theorem dX11_would_153 : decode cX11_would 153 = .ok (.ireturn, 1) := by decide +kernel
theorem dX11_would_154 : decode cX11_would 154 = .ok (.aload_n 0, 1) := by decide +kernel
theorem dX11_would_155 : decode cX11_would 155 = .ok (.getfield 40, 3) := by decide +kernel
theorem dX11_would_158 : decode cX11_would 158 = .ok (.getfield 128, 3) := by decide +kernel
theorem dX11_would_161 : decode cX11_would 161 = .ok (.ireturn, 1) := by decide +kernel
set_option maxRecDepth 20000 in
theorem ggX11_side_X11_isSide : GoodIn wsX11_side wsX11_isSide := goodIn_r _ [10] (by decide +kernel) (by decide +kernel)
set_option maxRecDepth 20000 in
theorem gX11_side_X11_isSide : GoodIn wsX11_side (va_wsS RX11 115 yX11_isSide wsX11_isSide) := goodIn_app (goodIn_of _ (by decide +kernel)) ggX11_side_X11_isSide
set_option maxRecDepth 20000 in
theorem ggX11_side_X11_hasCorner : GoodIn wsX11_side wsX11_hasCorner := goodIn_r _ [14, 1, 15, 16, 17, 18, 19, 20, 21, 22, 23, 24, 25, 26, 27, 28, 29, 30, 31, 32, 33, 44, 45, 46, 47, 48, 49] (by decide +kernel) (by decide +kernel)
set_option maxRecDepth 20000 in
theorem gX11_side_X11_hasCorner : GoodIn wsX11_side (wsV RX11 180 RX11 yX11_hasCorner wsX11_hasCorner) := goodIn_app (goodIn_of _ (by decide +kernel)) ggX11_side_X11_hasCorner
theorem dX11_side_0 : decode cX11_side 0 = .ok (.iload_n 1, 1) := by decide +kernel
theorem dX11_side_1 : decode cX11_side 1 = .ok (.invokestatic 115, 3) := by decide +kernel
theorem dX11_side_4 : decode cX11_side 4 = .ok (.ifCond .eq 10, 3) := by decide +kernel
theorem dX11_side_7 : decode cX11_side 7 = .ok (.aload_n 0, 1) := by decide +kernel
theorem dX11_side_8 : decode cX11_side 8 = .ok (.invokevirtual 180, 3) := by decide +kernel
theorem dX11_side_11 : decode cX11_side 11 = .ok (.ifCond .ne 5, 3) := by decide +kernel
theorem dX11_side_14 : decode cX11_side 14 = .ok (.iconst (-1), 1) := by decide +kernel
theorem dX11_side_15 : decode cX11_side 15 = .ok (.ireturn, 1) := by decide +kernel
theorem dX11_side_16 : decode cX11_side 16 = .ok (.iload_n 2, 1) := by decide +kernel
theorem dX11_side_17 : decode cX11_side 17 = .ok (.tableswitch 80 0 3 #[31, 44, 57, 70], 31) := by decide +kernel
theorem dX11_side_48 : decode cX11_side 48 = .ok (.aload_n 0, 1) := by decide +kernel
theorem dX11_side_49 : decode cX11_side 49 = .ok (.getfield 22, 3) := by decide +kernel
theorem dX11_side_52 : decode cX11_side 52 = .ok (.getfield 118, 3) := by decide +kernel
theorem dX11_side_55 : decode cX11_side 55 = .ok (.getfield 183, 3) := by decide +kernel
theorem dX11_side_58 : decode cX11_side 58 = .ok (.iload_n 1, 1) := by decide +kernel
theorem dX11_side_59 : decode cX11_side 59 = .ok (.iaload, 1) := by decide +kernel
theorem dX11_side_60 : decode cX11_side 60 = .ok (.ireturn, 1) := by decide +kernel
theorem dX11_side_61 : decode cX11_side 61 = .ok (.aload_n 0, 1) := by decide +kernel
theorem dX11_side_62 : decode cX11_side 62 = .ok (.getfield 22, 3) := by decide +kernel
theorem dX11_side_65 : decode cX11_side 65 = .ok (.getfield 118, 3) := by decide +kernel
theorem dX11_side_68 : decode cX11_side 68 = .ok (.getfield 186, 3) := by decide +kernel
theorem dX11_side_71 : decode cX11_side 71 = .ok (.iload_n 1, 1) := by decide +kernel
theorem dX11_side_72 : decode cX11_side 72 = .ok (.iaload, 1) := by decide +kernel
theorem dX11_side_73 : decode cX11_side 73 = .ok (.ireturn, 1) := by decide +kernel
theorem dX11_side_74 : decode cX11_side 74 = .ok (.aload_n 0, 1) := by decide +kernel
theorem dX11_side_75 : decode cX11_side 75 = .ok (.getfield 22, 3) := by decide +kernel
theorem dX11_side_78 : decode cX11_side 78 = .ok (.getfield 118, 3) := by decide +kernel
theorem dX11_side_81 : decode cX11_side 81 = .ok (.getfield 189, 3) := by decide +kernel
theorem dX11_side_84 : decode cX11_side 84 = .ok (.iload_n 1, 1) := by decide +kernel
theorem dX11_side_85 : decode cX11_side 85 = .ok (.iaload, 1) := by decide +kernel
theorem dX11_side_86 : decode cX11_side 86 = .ok (.ireturn, 1) := by decide +kernel
theorem dX11_side_87 : decode cX11_side 87 = .ok (.aload_n 0, 1) := by decide +kernel
theorem dX11_side_88 : decode cX11_side 88 = .ok (.getfield 22, 3) := by decide +kernel
theorem dX11_side_91 : decode cX11_side 91 = .ok (.getfield 192, 3) := by decide +kernel
theorem dX11_side_94 : decode cX11_side 94 = .ok (.iload_n 1, 1) := by decide +kernel
theorem dX11_side_95 : decode cX11_side 95 = .ok (.iaload, 1) := by decide +kernel
theorem dX11_side_96 : decode cX11_side 96 = .ok (.ireturn, 1) := by decide +kernel
theorem dX11_side_97 : decode cX11_side 97 = .ok (.iconst (-1), 1) := by decide +kernel
theorem dX11_side_98 : decode cX11_side 98 = .ok (.ireturn, 1) := by decide +kernel
set_option maxRecDepth 20000 in
theorem ggX11_fill_X11_isSide : GoodIn wsX11_fill wsX11_isSide := goodIn_r _ [9] (by decide +kernel) (by decide +kernel)
set_option maxRecDepth 20000 in
theorem gX11_fill_X11_isSide : GoodIn wsX11_fill (va_wsS RX11 115 yX11_isSide wsX11_isSide) := goodIn_app (goodIn_of _ (by decide +kernel)) ggX11_fill_X11_isSide
set_option maxRecDepth 20000 in
theorem ggX11_fill_X11_isPurse : GoodIn wsX11_fill wsX11_isPurse := goodIn_r _ [12] (by decide +kernel) (by decide +kernel)
set_option maxRecDepth 20000 in
theorem gX11_fill_X11_isPurse : GoodIn wsX11_fill (va_wsS RX11 195 yX11_isPurse wsX11_isPurse) := goodIn_app (goodIn_of _ (by decide +kernel)) ggX11_fill_X11_isPurse
set_option maxRecDepth 20000 in
theorem ggX11_fill_X11_hasCorner : GoodIn wsX11_fill wsX11_hasCorner := goodIn_r _ [16, 1, 5, 17, 59, 60, 61, 62, 63, 64, 65, 66, 67, 68, 69, 70, 71, 72, 73, 74, 75, 86, 87, 88, 89, 90, 91] (by decide +kernel) (by decide +kernel)
set_option maxRecDepth 20000 in
theorem gX11_fill_X11_hasCorner : GoodIn wsX11_fill (wsV RX11 180 RX11 yX11_hasCorner wsX11_hasCorner) := goodIn_app (goodIn_of _ (by decide +kernel)) ggX11_fill_X11_hasCorner
set_option maxRecDepth 20000 in
theorem ggX11_fill_X6_endIfStuck : GoodIn wsX11_fill wsX6_endIfStuck := goodIn_r _ [22, 23, 24, 25, 26, 27, 28, 21, 29, 30, 31, 32, 33, 34, 35, 36, 37, 38, 39, 40, 41, 42, 43, 44, 45, 46, 47, 48, 49, 76, 77, 78, 79, 80, 81, 82, 83, 84, 85, 86, 87, 88, 89, 90, 91] (by decide +kernel) (by decide +kernel)
set_option maxRecDepth 20000 in
theorem gX11_fill_X6_endIfStuck : GoodIn wsX11_fill (wsV RX11 198 RX6 yX6_endIfStuck wsX6_endIfStuck) := goodIn_app (goodIn_of _ (by decide +kernel)) ggX11_fill_X6_endIfStuck
set_option maxRecDepth 20000 in
theorem ggX11_fill_X10_noteWinner : GoodIn wsX11_fill wsX10_noteWinner := goodIn_r _ [54, 55, 56, 57, 58, 71, 72, 73, 74, 75, 76, 77, 78, 79, 80, 81, 82, 83, 84, 85] (by decide +kernel) (by decide +kernel)
set_option maxRecDepth 20000 in
theorem gX11_fill_X10_noteWinner : GoodIn wsX11_fill (wsV RX11 125 RX10 yX10_noteWinner wsX10_noteWinner) := goodIn_app (goodIn_of _ (by decide +kernel)) ggX11_fill_X10_noteWinner
theorem dX11_fill_0 : decode cX11_fill 0 = .ok (.iload_n 1, 1) := by decide +kernel
theorem dX11_fill_1 : decode cX11_fill 1 = .ok (.invokestatic 115, 3) := by decide +kernel
theorem dX11_fill_4 : decode cX11_fill 4 = .ok (.ifCond .eq 17, 3) := by decide +kernel
theorem dX11_fill_7 : decode cX11_fill 7 = .ok (.iload_n 2, 1) := by decide +kernel
theorem dX11_fill_8 : decode cX11_fill 8 = .ok (.invokestatic 195, 3) := by decide +kernel
theorem dX11_fill_11 : decode cX11_fill 11 = .ok (.ifCond .eq 10, 3) := by decide +kernel
theorem dX11_fill_14 : decode cX11_fill 14 = .ok (.aload_n 0, 1) := by decide +kernel
theorem dX11_fill_15 : decode cX11_fill 15 = .ok (.invokevirtual 180, 3) := by decide +kernel
theorem dX11_fill_18 : decode cX11_fill 18 = .ok (.ifCond .ne 5, 3) := by decide +kernel
theorem dX11_fill_21 : decode cX11_fill 21 = .ok (.iconst (-1), 1) := by decide +kernel
theorem dX11_fill_22 : decode cX11_fill 22 = .ok (.ireturn, 1) := by decide +kernel
theorem dX11_fill_23 : decode cX11_fill 23 = .ok (.aload_n 0, 1) := by decide +kernel
theorem dX11_fill_24 : decode cX11_fill 24 = .ok (.getfield 22, 3) := by decide +kernel
theorem dX11_fill_27 : decode cX11_fill 27 = .ok (.getfield 118, 3) := by decide +kernel
theorem dX11_fill_30 : decode cX11_fill 30 = .ok (.getfield 183, 3) := by decide +kernel
theorem dX11_fill_33 : decode cX11_fill 33 = .ok (.iload_n 1, 1) := by decide +kernel
theorem dX11_fill_34 : decode cX11_fill 34 = .ok (.iaload, 1) := by decide +kernel
theorem dX11_fill_35 : decode cX11_fill 35 = .ok (.istore_n 3, 1) := by decide +kernel
theorem dX11_fill_36 : decode cX11_fill 36 = .ok (.aload_n 0, 1) := by decide +kernel
theorem dX11_fill_37 : decode cX11_fill 37 = .ok (.getfield 22, 3) := by decide +kernel
theorem dX11_fill_40 : decode cX11_fill 40 = .ok (.getfield 118, 3) := by decide +kernel
theorem dX11_fill_43 : decode cX11_fill 43 = .ok (.getfield 183, 3) := by decide +kernel
theorem dX11_fill_46 : decode cX11_fill 46 = .ok (.iload_n 1, 1) := by decide +kernel
theorem dX11_fill_47 : decode cX11_fill 47 = .ok (.iload_n 2, 1) := by decide +kernel
theorem dX11_fill_48 : decode cX11_fill 48 = .ok (.iastore, 1) := by decide +kernel
theorem dX11_fill_49 : decode cX11_fill 49 = .ok (.aload_n 0, 1) := by decide +kernel
theorem dX11_fill_50 : decode cX11_fill 50 = .ok (.getfield 22, 3) := by decide +kernel
theorem dX11_fill_53 : decode cX11_fill 53 = .ok (.getfield 118, 3) := by decide +kernel
theorem dX11_fill_56 : decode cX11_fill 56 = .ok (.getfield 149, 3) := by decide +kernel
theorem dX11_fill_59 : decode cX11_fill 59 = .ok (.ifCond .eq 27, 3) := by decide +kernel
theorem dX11_fill_62 : decode cX11_fill 62 = .ok (.aload_n 0, 1) := by decide +kernel
theorem dX11_fill_63 : decode cX11_fill 63 = .ok (.getfield 22, 3) := by decide +kernel
theorem dX11_fill_66 : decode cX11_fill 66 = .ok (.getfield 118, 3) := by decide +kernel
theorem dX11_fill_69 : decode cX11_fill 69 = .ok (.aload_n 0, 1) := by decide +kernel
theorem dX11_fill_70 : decode cX11_fill 70 = .ok (.getfield 22, 3) := by decide +kernel
theorem dX11_fill_73 : decode cX11_fill 73 = .ok (.getfield 108, 3) := by decide +kernel
theorem dX11_fill_76 : decode cX11_fill 76 = .ok (.invokevirtual 198, 3) := by decide +kernel
theorem dX11_fill_79 : decode cX11_fill 79 = .ok (.aload_n 0, 1) := by decide +kernel
theorem dX11_fill_80 : decode cX11_fill 80 = .ok (.getfield 22, 3) := by decide +kernel
theorem dX11_fill_83 : decode cX11_fill 83 = .ok (.invokevirtual 125, 3) := by decide +kernel
theorem dX11_fill_86 : decode cX11_fill 86 = .ok (.iload_n 3, 1) := by decide +kernel
theorem dX11_fill_87 : decode cX11_fill 87 = .ok (.ireturn, 1) := by decide +kernel
set_option maxRecDepth 20000 in
theorem ggX11_have_X11_turnHas : GoodIn wsX11_have wsX11_turnHas := goodIn_r _ [11, 1, 2, 12, 13, 14, 15, 16, 17, 18, 19, 20, 21, 22, 23, 24, 25, 26, 27, 28, 29, 30, 31, 32, 33, 34, 35, 36, 37, 38, 39, 40, 41, 42, 43, 44, 45, 46, 47, 48, 49, 50, 51, 52, 53, 54, 55, 56, 57, 58, 59, 60, 61, 62, 63, 64, 65, 66, 67, 68, 69, 70, 71, 72, 73, 74, 75, 76, 77, 78, 79, 80, 81, 82, 83, 84, 85, 86, 87, 88, 89, 90, 91, 92, 93, 94, 95, 96, 97, 98, 99, 100, 101, 102, 103, 104, 105, 106, 107, 108, 109, 110, 111, 112, 113, 114, 115, 116, 117, 118, 119, 120, 121, 122, 123, 124, 125, 126, 127, 128, 129, 130, 131, 132, 133, 134, 135, 136, 137, 138, 139, 140, 141, 142, 143, 144, 145, 146, 147, 148, 149, 150, 151, 152, 153, 154, 155, 156, 157] (by decide +kernel) (by decide +kernel)
set_option maxRecDepth 20000 in
theorem gX11_have_X11_turnHas : GoodIn wsX11_have (wsV RX11 204 RX11 yX11_turnHas wsX11_turnHas) := goodIn_app (goodIn_of _ (by decide +kernel)) ggX11_have_X11_turnHas
theorem dX11_have_0 : decode cX11_have 0 = .ok (.aload_n 0, 1) := by decide +kernel
theorem dX11_have_1 : decode cX11_have 1 = .ok (.getfield 22, 3) := by decide +kernel
theorem dX11_have_4 : decode cX11_have 4 = .ok (.getfield 118, 3) := by decide +kernel
theorem dX11_have_7 : decode cX11_have 7 = .ok (.astore_n 1, 1) := by decide +kernel
theorem dX11_have_8 : decode cX11_have 8 = .ok (.aload_n 1, 1) := by decide +kernel
theorem dX11_have_9 : decode cX11_have 9 = .ok (.getfield 149, 3) := by decide +kernel
theorem dX11_have_12 : decode cX11_have 12 = .ok (.ifCond .ne 6, 3) := by decide +kernel
theorem dX11_have_15 : decode cX11_have 15 = .ok (.bipush (-2), 2) := by decide +kernel
theorem dX11_have_17 : decode cX11_have 17 = .ok (.ireturn, 1) := by decide +kernel
theorem dX11_have_18 : decode cX11_have 18 = .ok (.aload_n 0, 1) := by decide +kernel
theorem dX11_have_19 : decode cX11_have 19 = .ok (.aload_n 1, 1) := by decide +kernel
theorem dX11_have_20 : decode cX11_have 20 = .ok (.getfield 201, 3) := by decide +kernel
theorem dX11_have_23 : decode cX11_have 23 = .ok (.aload_n 1, 1) := by decide +kernel
theorem dX11_have_24 : decode cX11_have 24 = .ok (.getfield 128, 3) := by decide +kernel
theorem dX11_have_27 : decode cX11_have 27 = .ok (.invokevirtual 204, 3) := by decide +kernel
theorem dX11_have_30 : decode cX11_have 30 = .ok (.ifCond .eq 10, 3) := by decide +kernel
theorem dX11_have_33 : decode cX11_have 33 = .ok (.aload_n 1, 1) := by decide +kernel
theorem dX11_have_34 : decode cX11_have 34 = .ok (.getfield 208, 3) := by decide +kernel
theorem dX11_have_37 : decode cX11_have 37 = .ok (.goto 9, 3) := by decide +kernel
theorem dX11_have_40 : decode cX11_have 40 = .ok (.iconst 1, 1) := by decide +kernel
theorem dX11_have_41 : decode cX11_have 41 = .ok (.aload_n 1, 1) := by decide +kernel
theorem dX11_have_42 : decode cX11_have 42 = .ok (.getfield 208, 3) := by decide +kernel
theorem dX11_have_45 : decode cX11_have 45 = .ok (.isub, 1) := by decide +kernel
theorem dX11_have_46 : decode cX11_have 46 = .ok (.ireturn, 1) := by decide +kernel
set_option maxRecDepth 20000 in
theorem ggX11_turnHas_X6_myPurse : GoodIn wsX11_turnHas wsX6_myPurse := goodIn_r _ [9, 10, 11, 122, 123, 124, 125, 126, 127, 128, 129, 130, 131] (by decide +kernel) (by decide +kernel)
set_option maxRecDepth 20000 in
theorem gX11_turnHas_X6_myPurse : GoodIn wsX11_turnHas (wsV RX11 211 RX6 yX6_myPurse wsX6_myPurse) := goodIn_app (goodIn_of _ (by decide +kernel)) ggX11_turnHas_X6_myPurse
set_option maxRecDepth 20000 in
theorem ggX11_turnHas_X6_theirPurse : GoodIn wsX11_turnHas wsX6_theirPurse := goodIn_r _ [15, 10, 11, 122, 123, 124, 125, 126, 127, 128, 129, 130, 131] (by decide +kernel) (by decide +kernel)
set_option maxRecDepth 20000 in
theorem gX11_turnHas_X6_theirPurse : GoodIn wsX11_turnHas (wsV RX11 214 RX6 yX6_theirPurse wsX6_theirPurse) := goodIn_app (goodIn_of _ (by decide +kernel)) ggX11_turnHas_X6_theirPurse
set_option maxRecDepth 20000 in
theorem ggX11_turnHas_X6_lasts : GoodIn wsX11_turnHas wsX6_lasts := goodIn_r _ [19, 20, 11, 122, 123, 124, 125, 126, 127, 128, 129, 130, 131] (by decide +kernel) (by decide +kernel)
set_option maxRecDepth 20000 in
theorem gX11_turnHas_X6_lasts : GoodIn wsX11_turnHas (wsV RX11 217 RX6 yX6_lasts wsX6_lasts) := goodIn_app (goodIn_of _ (by decide +kernel)) ggX11_turnHas_X6_lasts
set_option maxRecDepth 20000 in
theorem ggX11_turnHas_X0_winners : GoodIn wsX11_turnHas wsX0_winners := goodIn_r _ [25, 26, 27, 28, 29, 30, 24, 31, 32, 33, 34, 35, 36, 37, 38, 39, 40, 41, 42, 43, 44, 45, 46, 47, 48, 49, 50, 51, 52, 53, 54, 55, 56, 57, 58, 59, 60, 61, 62, 63, 64, 65, 66, 67, 68, 69, 70, 71, 72, 73, 74, 75, 76, 77, 78, 79, 80, 81, 82, 83, 84, 85, 86, 87, 88, 89, 90, 91, 92, 93, 94, 95, 96, 97, 98, 99, 100, 101, 132, 133, 134, 135, 136, 137, 138, 139, 140, 141, 142, 143, 144, 145, 146, 147, 148] (by decide +kernel) (by decide +kernel)
set_option maxRecDepth 20000 in
theorem gX11_turnHas_X0_winners : GoodIn wsX11_turnHas (wsV RX11 220 RX0 yX0_winners wsX0_winners) := goodIn_app (goodIn_of _ (by decide +kernel)) ggX11_turnHas_X0_winners
set_option maxRecDepth 20000 in
theorem ggX11_turnHas_X0_holds : GoodIn wsX11_turnHas wsX0_holds := goodIn_r _ [104] (by decide +kernel) (by decide +kernel)
set_option maxRecDepth 20000 in
theorem gX11_turnHas_X0_holds : GoodIn wsX11_turnHas (va_wsS RX11 224 yX0_holds wsX0_holds) := goodIn_app (goodIn_of _ (by decide +kernel)) ggX11_turnHas_X0_holds
theorem dX11_turnHas_0 : decode cX11_turnHas 0 = .ok (.aload_n 0, 1) := by decide +kernel
theorem dX11_turnHas_1 : decode cX11_turnHas 1 = .ok (.getfield 22, 3) := by decide +kernel
theorem dX11_turnHas_4 : decode cX11_turnHas 4 = .ok (.getfield 118, 3) := by decide +kernel
theorem dX11_turnHas_7 : decode cX11_turnHas 7 = .ok (.astore_n 3, 1) := by decide +kernel
theorem dX11_turnHas_8 : decode cX11_turnHas 8 = .ok (.aload_n 3, 1) := by decide +kernel
theorem dX11_turnHas_9 : decode cX11_turnHas 9 = .ok (.invokevirtual 211, 3) := by decide +kernel
theorem dX11_turnHas_12 : decode cX11_turnHas 12 = .ok (.istore 4, 2) := by decide +kernel
theorem dX11_turnHas_14 : decode cX11_turnHas 14 = .ok (.aload_n 3, 1) := by decide +kernel
theorem dX11_turnHas_15 : decode cX11_turnHas 15 = .ok (.invokevirtual 214, 3) := by decide +kernel
theorem dX11_turnHas_18 : decode cX11_turnHas 18 = .ok (.istore 5, 2) := by decide +kernel
theorem dX11_turnHas_20 : decode cX11_turnHas 20 = .ok (.aload_n 0, 1) := by decide +kernel
theorem dX11_turnHas_21 : decode cX11_turnHas 21 = .ok (.getfield 47, 3) := by decide +kernel
theorem dX11_turnHas_24 : decode cX11_turnHas 24 = .ok (.aload_n 0, 1) := by decide +kernel
theorem dX11_turnHas_25 : decode cX11_turnHas 25 = .ok (.getfield 22, 3) := by decide +kernel
theorem dX11_turnHas_28 : decode cX11_turnHas 28 = .ok (.getfield 108, 3) := by decide +kernel
theorem dX11_turnHas_31 : decode cX11_turnHas 31 = .ok (.iload_n 1, 1) := by decide +kernel
theorem dX11_turnHas_32 : decode cX11_turnHas 32 = .ok (.iload_n 2, 1) := by decide +kernel
theorem dX11_turnHas_33 : decode cX11_turnHas 33 = .ok (.aload_n 3, 1) := by decide +kernel
theorem dX11_turnHas_34 : decode cX11_turnHas 34 = .ok (.invokevirtual 217, 3) := by decide +kernel
theorem dX11_turnHas_37 : decode cX11_turnHas 37 = .ok (.iload 4, 2) := by decide +kernel
theorem dX11_turnHas_39 : decode cX11_turnHas 39 = .ok (.iload 5, 2) := by decide +kernel
theorem dX11_turnHas_41 : decode cX11_turnHas 41 = .ok (.iadd, 1) := by decide +kernel
theorem dX11_turnHas_42 : decode cX11_turnHas 42 = .ok (.invokevirtual 220, 3) := by decide +kernel
theorem dX11_turnHas_45 : decode cX11_turnHas 45 = .ok (.lstore 6, 2) := by decide +kernel
theorem dX11_turnHas_47 : decode cX11_turnHas 47 = .ok (.lload 6, 2) := by decide +kernel
theorem dX11_turnHas_49 : decode cX11_turnHas 49 = .ok (.iload 4, 2) := by decide +kernel
theorem dX11_turnHas_51 : decode cX11_turnHas 51 = .ok (.iload 5, 2) := by decide +kernel
theorem dX11_turnHas_53 : decode cX11_turnHas 53 = .ok (.invokestatic 224, 3) := by decide +kernel
theorem dX11_turnHas_56 : decode cX11_turnHas 56 = .ok (.ireturn, 1) := by decide +kernel
set_option maxRecDepth 20000 in
theorem ggX11_move_X0_firstMove : GoodIn wsX11_move wsX0_firstMove := goodIn_r _ [10, 11, 12, 13, 14, 15, 16, 17, 18, 19, 20, 21, 22, 23, 24, 25, 26, 27, 28, 9, 29, 30, 31, 32, 33, 34, 35, 36, 37, 38, 39, 40, 41, 42, 43, 44, 45, 46, 47, 48, 49, 50, 51, 52, 53, 54, 55, 56, 57, 58, 59, 60, 61, 62, 63, 64, 65, 66, 67, 68, 69, 70, 71, 72, 73, 74, 75, 76, 77, 78, 79, 80, 81, 82, 83, 84, 85, 86, 87, 88, 89, 90, 91, 92, 93, 94, 95, 96, 97, 98, 99, 100, 101, 102, 103, 104, 105, 106, 107, 108, 109, 110, 111, 112, 113, 114, 115, 116, 117, 118, 119, 137, 138, 139, 140, 141, 142, 143, 144, 145, 146, 147, 148, 149, 150, 151, 152, 153, 154, 155, 156, 157, 158, 159, 160, 161, 162, 163] (by decide +kernel) (by decide +kernel)
set_option maxRecDepth 20000 in
theorem gX11_move_X0_firstMove : GoodIn wsX11_move (wsV RX11 228 RX0 yX0_firstMove wsX0_firstMove) := goodIn_app (goodIn_of _ (by decide +kernel)) ggX11_move_X0_firstMove
theorem dX11_move_0 : decode cX11_move 0 = .ok (.aload_n 0, 1) := by decide +kernel
theorem dX11_move_1 : decode cX11_move 1 = .ok (.getfield 22, 3) := by decide +kernel
theorem dX11_move_4 : decode cX11_move 4 = .ok (.getfield 118, 3) := by decide +kernel
theorem dX11_move_7 : decode cX11_move 7 = .ok (.getfield 149, 3) := by decide +kernel
theorem dX11_move_10 : decode cX11_move 10 = .ok (.ifCond .eq 27, 3) := by decide +kernel
theorem dX11_move_13 : decode cX11_move 13 = .ok (.aload_n 0, 1) := by decide +kernel
theorem dX11_move_14 : decode cX11_move 14 = .ok (.getfield 47, 3) := by decide +kernel
theorem dX11_move_17 : decode cX11_move 17 = .ok (.aload_n 0, 1) := by decide +kernel
theorem dX11_move_18 : decode cX11_move 18 = .ok (.getfield 22, 3) := by decide +kernel
theorem dX11_move_21 : decode cX11_move 21 = .ok (.getfield 108, 3) := by decide +kernel
theorem dX11_move_24 : decode cX11_move 24 = .ok (.aload_n 0, 1) := by decide +kernel
theorem dX11_move_25 : decode cX11_move 25 = .ok (.getfield 22, 3) := by decide +kernel
theorem dX11_move_28 : decode cX11_move 28 = .ok (.getfield 118, 3) := by decide +kernel
theorem dX11_move_31 : decode cX11_move 31 = .ok (.invokevirtual 228, 3) := by decide +kernel
theorem dX11_move_34 : decode cX11_move 34 = .ok (.goto 5, 3) := by decide +kernel
theorem dX11_move_37 : decode cX11_move 37 = .ok (.bipush (-2), 2) := by decide +kernel
theorem dX11_move_39 : decode cX11_move 39 = .ok (.ireturn, 1) := by decide +kernel
set_option maxRecDepth 20000 in
theorem ggX11_enough_X11_isSide : GoodIn wsX11_enough wsX11_isSide := goodIn_r _ [12] (by decide +kernel) (by decide +kernel)
set_option maxRecDepth 20000 in
theorem gX11_enough_X11_isSide : GoodIn wsX11_enough (va_wsS RX11 115 yX11_isSide wsX11_isSide) := goodIn_app (goodIn_of _ (by decide +kernel)) ggX11_enough_X11_isSide
set_option maxRecDepth 20000 in
theorem ggX11_enough_X6_lasts : GoodIn wsX11_enough wsX6_lasts := goodIn_r _ [17, 18, 19, 126, 127, 128, 129, 130, 131, 132, 133, 134, 135] (by decide +kernel) (by decide +kernel)
set_option maxRecDepth 20000 in
theorem gX11_enough_X6_lasts : GoodIn wsX11_enough (wsV RX11 217 RX6 yX6_lasts wsX6_lasts) := goodIn_app (goodIn_of _ (by decide +kernel)) ggX11_enough_X6_lasts
set_option maxRecDepth 20000 in
theorem ggX11_enough_X0_winners : GoodIn wsX11_enough wsX0_winners := goodIn_r _ [24, 25, 26, 27, 28, 29, 23, 30, 31, 32, 33, 34, 35, 36, 37, 38, 39, 40, 41, 42, 43, 44, 45, 46, 47, 48, 49, 50, 51, 52, 53, 54, 55, 56, 57, 58, 59, 60, 61, 62, 63, 64, 65, 66, 67, 68, 69, 70, 71, 72, 73, 74, 75, 76, 77, 78, 79, 80, 81, 82, 83, 84, 85, 86, 87, 88, 89, 90, 91, 92, 93, 94, 95, 96, 97, 98, 99, 100, 136, 137, 138, 139, 140, 141, 142, 143, 144, 145, 146, 147, 148, 149, 150, 151, 152] (by decide +kernel) (by decide +kernel)
set_option maxRecDepth 20000 in
theorem gX11_enough_X0_winners : GoodIn wsX11_enough (wsV RX11 220 RX0 yX0_winners wsX0_winners) := goodIn_app (goodIn_of _ (by decide +kernel)) ggX11_enough_X0_winners
set_option maxRecDepth 20000 in
theorem ggX11_enough_X11_hasWith : GoodIn wsX11_enough wsX11_hasWith := goodIn_r _ [104, 1, 2, 105, 106, 107, 23, 108, 109, 110, 111, 112, 113, 114, 115, 116, 117, 118, 119, 120, 121, 122, 123, 124, 125, 126, 127, 128, 129, 130, 131, 132, 133, 134, 135] (by decide +kernel) (by decide +kernel)
set_option maxRecDepth 20000 in
theorem gX11_enough_X11_hasWith : GoodIn wsX11_enough (wsV RX11 232 RX11 yX11_hasWith wsX11_hasWith) := goodIn_app (goodIn_of _ (by decide +kernel)) ggX11_enough_X11_hasWith
theorem dX11_enough_0 : decode cX11_enough 0 = .ok (.aload_n 0, 1) := by decide +kernel
theorem dX11_enough_1 : decode cX11_enough 1 = .ok (.getfield 22, 3) := by decide +kernel
theorem dX11_enough_4 : decode cX11_enough 4 = .ok (.getfield 118, 3) := by decide +kernel
theorem dX11_enough_7 : decode cX11_enough 7 = .ok (.astore_n 2, 1) := by decide +kernel
theorem dX11_enough_8 : decode cX11_enough 8 = .ok (.iload_n 1, 1) := by decide +kernel
theorem dX11_enough_9 : decode cX11_enough 9 = .ok (.invokestatic 115, 3) := by decide +kernel
theorem dX11_enough_12 : decode cX11_enough 12 = .ok (.ifCond .eq 10, 3) := by decide +kernel
theorem dX11_enough_15 : decode cX11_enough 15 = .ok (.aload_n 2, 1) := by decide +kernel
theorem dX11_enough_16 : decode cX11_enough 16 = .ok (.getfield 149, 3) := by decide +kernel
theorem dX11_enough_19 : decode cX11_enough 19 = .ok (.ifCond .ne 6, 3) := by decide +kernel
theorem dX11_enough_22 : decode cX11_enough 22 = .ok (.bipush (-2), 2) := by decide +kernel
theorem dX11_enough_24 : decode cX11_enough 24 = .ok (.ireturn, 1) := by decide +kernel
theorem dX11_enough_25 : decode cX11_enough 25 = .ok (.aload_n 2, 1) := by decide +kernel
theorem dX11_enough_26 : decode cX11_enough 26 = .ok (.getfield 183, 3) := by decide +kernel
theorem dX11_enough_29 : decode cX11_enough 29 = .ok (.iconst 1, 1) := by decide +kernel
theorem dX11_enough_30 : decode cX11_enough 30 = .ok (.iload_n 1, 1) := by decide +kernel
theorem dX11_enough_31 : decode cX11_enough 31 = .ok (.isub, 1) := by decide +kernel
theorem dX11_enough_32 : decode cX11_enough 32 = .ok (.iaload, 1) := by decide +kernel
theorem dX11_enough_33 : decode cX11_enough 33 = .ok (.istore_n 3, 1) := by decide +kernel
theorem dX11_enough_34 : decode cX11_enough 34 = .ok (.aload_n 0, 1) := by decide +kernel
theorem dX11_enough_35 : decode cX11_enough 35 = .ok (.getfield 47, 3) := by decide +kernel
theorem dX11_enough_38 : decode cX11_enough 38 = .ok (.aload_n 0, 1) := by decide +kernel
theorem dX11_enough_39 : decode cX11_enough 39 = .ok (.getfield 22, 3) := by decide +kernel
theorem dX11_enough_42 : decode cX11_enough 42 = .ok (.getfield 108, 3) := by decide +kernel
theorem dX11_enough_45 : decode cX11_enough 45 = .ok (.aload_n 2, 1) := by decide +kernel
theorem dX11_enough_46 : decode cX11_enough 46 = .ok (.getfield 201, 3) := by decide +kernel
theorem dX11_enough_49 : decode cX11_enough 49 = .ok (.aload_n 2, 1) := by decide +kernel
theorem dX11_enough_50 : decode cX11_enough 50 = .ok (.getfield 128, 3) := by decide +kernel
theorem dX11_enough_53 : decode cX11_enough 53 = .ok (.aload_n 2, 1) := by decide +kernel
theorem dX11_enough_54 : decode cX11_enough 54 = .ok (.invokevirtual 217, 3) := by decide +kernel
theorem dX11_enough_57 : decode cX11_enough 57 = .ok (.iload_n 3, 1) := by decide +kernel
theorem dX11_enough_58 : decode cX11_enough 58 = .ok (.bipush 7, 2) := by decide +kernel
theorem dX11_enough_60 : decode cX11_enough 60 = .ok (.iadd, 1) := by decide +kernel
theorem dX11_enough_61 : decode cX11_enough 61 = .ok (.invokevirtual 220, 3) := by decide +kernel
theorem dX11_enough_64 : decode cX11_enough 64 = .ok (.lstore 4, 2) := by decide +kernel
theorem dX11_enough_66 : decode cX11_enough 66 = .ok (.iconst 0, 1) := by decide +kernel
theorem dX11_enough_67 : decode cX11_enough 67 = .ok (.istore 6, 2) := by decide +kernel
theorem dX11_enough_69 : decode cX11_enough 69 = .ok (.iload 6, 2) := by decide +kernel
theorem dX11_enough_71 : decode cX11_enough 71 = .ok (.bipush 7, 2) := by decide +kernel
theorem dX11_enough_73 : decode cX11_enough 73 = .ok (.if_icmp .gt 25, 3) := by decide +kernel
theorem dX11_enough_76 : decode cX11_enough 76 = .ok (.aload_n 0, 1) := by decide +kernel
theorem dX11_enough_77 : decode cX11_enough 77 = .ok (.lload 4, 2) := by decide +kernel
theorem dX11_enough_79 : decode cX11_enough 79 = .ok (.iload_n 1, 1) := by decide +kernel
theorem dX11_enough_80 : decode cX11_enough 80 = .ok (.iload 6, 2) := by decide +kernel
theorem dX11_enough_82 : decode cX11_enough 82 = .ok (.iload_n 3, 1) := by decide +kernel
theorem dX11_enough_83 : decode cX11_enough 83 = .ok (.invokevirtual 232, 3) := by decide +kernel
theorem dX11_enough_86 : decode cX11_enough 86 = .ok (.ifCond .eq 6, 3) := by decide +kernel
theorem dX11_enough_89 : decode cX11_enough 89 = .ok (.iload 6, 2) := by decide +kernel
theorem dX11_enough_91 : decode cX11_enough 91 = .ok (.ireturn, 1) := by decide +kernel
theorem dX11_enough_92 : decode cX11_enough 92 = .ok (.iinc 6 1, 3) := by decide +kernel
theorem dX11_enough_95 : decode cX11_enough 95 = .ok (.goto (-26), 3) := by decide +kernel
theorem dX11_enough_98 : decode cX11_enough 98 = .ok (.iconst (-1), 1) := by decide +kernel
theorem dX11_enough_99 : decode cX11_enough 99 = .ok (.ireturn, 1) := by decide +kernel
set_option maxRecDepth 20000 in
theorem ggX11_hasWith_X0_holds : GoodIn wsX11_hasWith wsX0_holds := goodIn_r _ [7] (by decide +kernel) (by decide +kernel)
set_option maxRecDepth 20000 in
theorem gX11_hasWith_X0_holds : GoodIn wsX11_hasWith (va_wsS RX11 224 yX0_holds wsX0_holds) := goodIn_app (goodIn_of _ (by decide +kernel)) ggX11_hasWith_X0_holds
theorem dX11_hasWith_0 : decode cX11_hasWith 0 = .ok (.iload_n 3, 1) := by decide +kernel
theorem dX11_hasWith_1 : decode cX11_hasWith 1 = .ok (.aload_n 0, 1) := by decide +kernel
theorem dX11_hasWith_2 : decode cX11_hasWith 2 = .ok (.getfield 22, 3) := by decide +kernel
theorem dX11_hasWith_5 : decode cX11_hasWith 5 = .ok (.getfield 118, 3) := by decide +kernel
theorem dX11_hasWith_8 : decode cX11_hasWith 8 = .ok (.getfield 208, 3) := by decide +kernel
theorem dX11_hasWith_11 : decode cX11_hasWith 11 = .ok (.if_icmp .ne 12, 3) := by decide +kernel
theorem dX11_hasWith_14 : decode cX11_hasWith 14 = .ok (.lload_n 1, 1) := by decide +kernel
theorem dX11_hasWith_15 : decode cX11_hasWith 15 = .ok (.iload 4, 2) := by decide +kernel
theorem dX11_hasWith_17 : decode cX11_hasWith 17 = .ok (.iload 5, 2) := by decide +kernel
theorem dX11_hasWith_19 : decode cX11_hasWith 19 = .ok (.invokestatic 224, 3) := by decide +kernel
theorem dX11_hasWith_22 : decode cX11_hasWith 22 = .ok (.ireturn, 1) := by decide +kernel
theorem dX11_hasWith_23 : decode cX11_hasWith 23 = .ok (.lload_n 1, 1) := by decide +kernel
theorem dX11_hasWith_24 : decode cX11_hasWith 24 = .ok (.iload 5, 2) := by decide +kernel
theorem dX11_hasWith_26 : decode cX11_hasWith 26 = .ok (.iload 4, 2) := by decide +kernel
theorem dX11_hasWith_28 : decode cX11_hasWith 28 = .ok (.invokestatic 224, 3) := by decide +kernel
theorem dX11_hasWith_31 : decode cX11_hasWith 31 = .ok (.ifCond .ne 7, 3) := by decide +kernel
theorem dX11_hasWith_34 : decode cX11_hasWith 34 = .ok (.iconst 1, 1) := by decide +kernel
theorem dX11_hasWith_35 : decode cX11_hasWith 35 = .ok (.goto 4, 3) := by decide +kernel
theorem dX11_hasWith_38 : decode cX11_hasWith 38 = .ok (.iconst 0, 1) := by decide +kernel
theorem dX11_hasWith_39 : decode cX11_hasWith 39 = .ok (.ireturn, 1) := by decide +kernel
set_option maxRecDepth 20000 in
theorem ggX11_hidden_X11_isSide : GoodIn wsX11_hidden wsX11_isSide := goodIn_r _ [12] (by decide +kernel) (by decide +kernel)
set_option maxRecDepth 20000 in
theorem gX11_hidden_X11_isSide : GoodIn wsX11_hidden (va_wsS RX11 115 yX11_isSide wsX11_isSide) := goodIn_app (goodIn_of _ (by decide +kernel)) ggX11_hidden_X11_isSide
set_option maxRecDepth 20000 in
theorem ggX11_hidden_X11_isPurse : GoodIn wsX11_hidden wsX11_isPurse := goodIn_r _ [15] (by decide +kernel) (by decide +kernel)
set_option maxRecDepth 20000 in
theorem gX11_hidden_X11_isPurse : GoodIn wsX11_hidden (va_wsS RX11 195 yX11_isPurse wsX11_isPurse) := goodIn_app (goodIn_of _ (by decide +kernel)) ggX11_hidden_X11_isPurse
set_option maxRecDepth 20000 in
theorem ggX11_hidden_X6_lasts : GoodIn wsX11_hidden wsX6_lasts := goodIn_r _ [20, 21, 22, 132, 133, 134, 135, 136, 137, 138, 139, 140, 141] (by decide +kernel) (by decide +kernel)
set_option maxRecDepth 20000 in
theorem gX11_hidden_X6_lasts : GoodIn wsX11_hidden (wsV RX11 217 RX6 yX6_lasts wsX6_lasts) := goodIn_app (goodIn_of _ (by decide +kernel)) ggX11_hidden_X6_lasts
set_option maxRecDepth 20000 in
theorem ggX11_hidden_X0_winners : GoodIn wsX11_hidden wsX0_winners := goodIn_r _ [27, 28, 29, 30, 31, 32, 26, 33, 34, 35, 36, 37, 38, 39, 40, 41, 42, 43, 44, 45, 46, 47, 48, 49, 50, 51, 52, 53, 54, 55, 56, 57, 58, 59, 60, 61, 62, 63, 64, 65, 66, 67, 68, 69, 70, 71, 72, 73, 74, 75, 76, 77, 78, 79, 80, 81, 82, 83, 84, 85, 86, 87, 88, 89, 90, 91, 92, 93, 94, 95, 96, 97, 98, 99, 100, 101, 102, 103, 142, 143, 144, 145, 146, 147, 148, 149, 150, 151, 152, 153, 154, 155, 156, 157, 158] (by decide +kernel) (by decide +kernel)
set_option maxRecDepth 20000 in
theorem gX11_hidden_X0_winners : GoodIn wsX11_hidden (wsV RX11 220 RX0 yX0_winners wsX0_winners) := goodIn_app (goodIn_of _ (by decide +kernel)) ggX11_hidden_X0_winners
set_option maxRecDepth 20000 in
theorem ggX11_hidden_X11_hasWith : GoodIn wsX11_hidden wsX11_hasWith := goodIn_r _ [107, 1, 2, 108, 109, 110, 26, 111, 115, 116, 117, 118, 119, 120, 121, 122, 123, 124, 125, 126, 127, 128, 129, 130, 131, 132, 133, 134, 135, 136, 137, 138, 139, 140, 141] (by decide +kernel) (by decide +kernel)
set_option maxRecDepth 20000 in
theorem gX11_hidden_X11_hasWith : GoodIn wsX11_hidden (wsV RX11 232 RX11 yX11_hasWith wsX11_hasWith) := goodIn_app (goodIn_of _ (by decide +kernel)) ggX11_hidden_X11_hasWith
set_option maxRecDepth 20000 in
theorem ggX11_hidden_X11_commonDivisor : GoodIn wsX11_hidden wsX11_commonDivisor := goodIn_r _ [114] (by decide +kernel) (by decide +kernel)
set_option maxRecDepth 20000 in
theorem gX11_hidden_X11_commonDivisor : GoodIn wsX11_hidden (va_wsS RX11 236 yX11_commonDivisor wsX11_commonDivisor) := goodIn_app (goodIn_of _ (by decide +kernel)) ggX11_hidden_X11_commonDivisor
theorem dX11_hidden_0 : decode cX11_hidden 0 = .ok (.aload_n 0, 1) := by decide +kernel
theorem dX11_hidden_1 : decode cX11_hidden 1 = .ok (.getfield 22, 3) := by decide +kernel
theorem dX11_hidden_4 : decode cX11_hidden 4 = .ok (.getfield 118, 3) := by decide +kernel
theorem dX11_hidden_7 : decode cX11_hidden 7 = .ok (.astore 4, 2) := by decide +kernel
theorem dX11_hidden_9 : decode cX11_hidden 9 = .ok (.iload_n 1, 1) := by decide +kernel
theorem dX11_hidden_10 : decode cX11_hidden 10 = .ok (.invokestatic 115, 3) := by decide +kernel
theorem dX11_hidden_13 : decode cX11_hidden 13 = .ok (.ifCond .eq 27, 3) := by decide +kernel
theorem dX11_hidden_16 : decode cX11_hidden 16 = .ok (.iload_n 2, 1) := by decide +kernel
theorem dX11_hidden_17 : decode cX11_hidden 17 = .ok (.invokestatic 195, 3) := by decide +kernel
theorem dX11_hidden_20 : decode cX11_hidden 20 = .ok (.ifCond .eq 20, 3) := by decide +kernel
theorem dX11_hidden_23 : decode cX11_hidden 23 = .ok (.iload_n 3, 1) := by decide +kernel
theorem dX11_hidden_24 : decode cX11_hidden 24 = .ok (.ifCond .lt 16, 3) := by decide +kernel
theorem dX11_hidden_27 : decode cX11_hidden 27 = .ok (.iload_n 3, 1) := by decide +kernel
theorem dX11_hidden_28 : decode cX11_hidden 28 = .ok (.iconst 1, 1) := by decide +kernel
theorem dX11_hidden_29 : decode cX11_hidden 29 = .ok (.if_icmp .gt 11, 3) := by decide +kernel
theorem dX11_hidden_32 : decode cX11_hidden 32 = .ok (.aload 4, 2) := by decide +kernel
theorem dX11_hidden_34 : decode cX11_hidden 34 = .ok (.getfield 149, 3) := by decide +kernel
theorem dX11_hidden_37 : decode cX11_hidden 37 = .ok (.ifCond .ne 6, 3) := by decide +kernel
theorem dX11_hidden_40 : decode cX11_hidden 40 = .ok (.bipush (-2), 2) := by decide +kernel
theorem dX11_hidden_42 : decode cX11_hidden 42 = .ok (.ireturn, 1) := by decide +kernel
theorem dX11_hidden_43 : decode cX11_hidden 43 = .ok (.aload 4, 2) := by decide +kernel
theorem dX11_hidden_45 : decode cX11_hidden 45 = .ok (.getfield 183, 3) := by decide +kernel
theorem dX11_hidden_48 : decode cX11_hidden 48 = .ok (.iload_n 1, 1) := by decide +kernel
theorem dX11_hidden_49 : decode cX11_hidden 49 = .ok (.iaload, 1) := by decide +kernel
theorem dX11_hidden_50 : decode cX11_hidden 50 = .ok (.istore 5, 2) := by decide +kernel
theorem dX11_hidden_52 : decode cX11_hidden 52 = .ok (.aload_n 0, 1) := by decide +kernel
theorem dX11_hidden_53 : decode cX11_hidden 53 = .ok (.getfield 47, 3) := by decide +kernel
theorem dX11_hidden_56 : decode cX11_hidden 56 = .ok (.aload_n 0, 1) := by decide +kernel
theorem dX11_hidden_57 : decode cX11_hidden 57 = .ok (.getfield 22, 3) := by decide +kernel
theorem dX11_hidden_60 : decode cX11_hidden 60 = .ok (.getfield 108, 3) := by decide +kernel
theorem dX11_hidden_63 : decode cX11_hidden 63 = .ok (.aload 4, 2) := by decide +kernel
theorem dX11_hidden_65 : decode cX11_hidden 65 = .ok (.getfield 201, 3) := by decide +kernel
theorem dX11_hidden_68 : decode cX11_hidden 68 = .ok (.aload 4, 2) := by decide +kernel
theorem dX11_hidden_70 : decode cX11_hidden 70 = .ok (.getfield 128, 3) := by decide +kernel
theorem dX11_hidden_73 : decode cX11_hidden 73 = .ok (.aload 4, 2) := by decide +kernel
theorem dX11_hidden_75 : decode cX11_hidden 75 = .ok (.invokevirtual 217, 3) := by decide +kernel
theorem dX11_hidden_78 : decode cX11_hidden 78 = .ok (.iload 5, 2) := by decide +kernel
theorem dX11_hidden_80 : decode cX11_hidden 80 = .ok (.iload_n 2, 1) := by decide +kernel
theorem dX11_hidden_81 : decode cX11_hidden 81 = .ok (.iadd, 1) := by decide +kernel
theorem dX11_hidden_82 : decode cX11_hidden 82 = .ok (.invokevirtual 220, 3) := by decide +kernel
theorem dX11_hidden_85 : decode cX11_hidden 85 = .ok (.lstore 6, 2) := by decide +kernel
theorem dX11_hidden_87 : decode cX11_hidden 87 = .ok (.iconst 0, 1) := by decide +kernel
theorem dX11_hidden_88 : decode cX11_hidden 88 = .ok (.istore 8, 2) := by decide +kernel
theorem dX11_hidden_90 : decode cX11_hidden 90 = .ok (.iconst 0, 1) := by decide +kernel
theorem dX11_hidden_91 : decode cX11_hidden 91 = .ok (.istore 9, 2) := by decide +kernel
theorem dX11_hidden_93 : decode cX11_hidden 93 = .ok (.iload 9, 2) := by decide +kernel
theorem dX11_hidden_95 : decode cX11_hidden 95 = .ok (.iload_n 2, 1) := by decide +kernel
theorem dX11_hidden_96 : decode cX11_hidden 96 = .ok (.if_icmp .gt 26, 3) := by decide +kernel
theorem dX11_hidden_99 : decode cX11_hidden 99 = .ok (.aload_n 0, 1) := by decide +kernel
theorem dX11_hidden_100 : decode cX11_hidden 100 = .ok (.lload 6, 2) := by decide +kernel
theorem dX11_hidden_102 : decode cX11_hidden 102 = .ok (.iload_n 1, 1) := by decide +kernel
theorem dX11_hidden_103 : decode cX11_hidden 103 = .ok (.iload 5, 2) := by decide +kernel
theorem dX11_hidden_105 : decode cX11_hidden 105 = .ok (.iload 9, 2) := by decide +kernel
theorem dX11_hidden_107 : decode cX11_hidden 107 = .ok (.invokevirtual 232, 3) := by decide +kernel
theorem dX11_hidden_110 : decode cX11_hidden 110 = .ok (.ifCond .eq 6, 3) := by decide +kernel
theorem dX11_hidden_113 : decode cX11_hidden 113 = .ok (.iinc 8 1, 3) := by decide +kernel
theorem dX11_hidden_116 : decode cX11_hidden 116 = .ok (.iinc 9 1, 3) := by decide +kernel
theorem dX11_hidden_119 : decode cX11_hidden 119 = .ok (.goto (-26), 3) := by decide +kernel
theorem dX11_hidden_122 : decode cX11_hidden 122 = .ok (.iload 8, 2) := by decide +kernel
theorem dX11_hidden_124 : decode cX11_hidden 124 = .ok (.iload_n 2, 1) := by decide +kernel
theorem dX11_hidden_125 : decode cX11_hidden 125 = .ok (.iconst 1, 1) := by decide +kernel
theorem dX11_hidden_126 : decode cX11_hidden 126 = .ok (.iadd, 1) := by decide +kernel
theorem dX11_hidden_127 : decode cX11_hidden 127 = .ok (.invokestatic 236, 3) := by decide +kernel
theorem dX11_hidden_130 : decode cX11_hidden 130 = .ok (.istore 9, 2) := by decide +kernel
theorem dX11_hidden_132 : decode cX11_hidden 132 = .ok (.iload_n 3, 1) := by decide +kernel
theorem dX11_hidden_133 : decode cX11_hidden 133 = .ok (.ifCond .ne 8, 3) := by decide +kernel
theorem dX11_hidden_136 : decode cX11_hidden 136 = .ok (.iload 8, 2) := by decide +kernel
theorem dX11_hidden_138 : decode cX11_hidden 138 = .ok (.goto 6, 3) := by decide +kernel
theorem dX11_hidden_141 : decode cX11_hidden 141 = .ok (.iload_n 2, 1) := by decide +kernel
theorem dX11_hidden_142 : decode cX11_hidden 142 = .ok (.iconst 1, 1) := by decide +kernel
theorem dX11_hidden_143 : decode cX11_hidden 143 = .ok (.iadd, 1) := by decide +kernel
theorem dX11_hidden_144 : decode cX11_hidden 144 = .ok (.istore 10, 2) := by decide +kernel
theorem dX11_hidden_146 : decode cX11_hidden 146 = .ok (.iload 9, 2) := by decide +kernel
theorem dX11_hidden_148 : decode cX11_hidden 148 = .ok (.ifCond .le 11, 3) := by decide +kernel
theorem dX11_hidden_151 : decode cX11_hidden 151 = .ok (.iload 10, 2) := by decide +kernel
theorem dX11_hidden_153 : decode cX11_hidden 153 = .ok (.iload 9, 2) := by decide +kernel
theorem dX11_hidden_155 : decode cX11_hidden 155 = .ok (.idiv, 1) := by decide +kernel
theorem dX11_hidden_156 : decode cX11_hidden 156 = .ok (.goto 5, 3) := by decide +kernel
theorem dX11_hidden_159 : decode cX11_hidden 159 = .ok (.bipush (-2), 2) := by decide +kernel
theorem dX11_hidden_161 : decode cX11_hidden 161 = .ok (.ireturn, 1) := by decide +kernel
theorem dX11_commonDivisor_0 : decode cX11_commonDivisor 0 = .ok (.iconst 1, 1) := by decide +kernel
theorem dX11_commonDivisor_1 : decode cX11_commonDivisor 1 = .ok (.istore_n 2, 1) := by decide +kernel
theorem dX11_commonDivisor_2 : decode cX11_commonDivisor 2 = .ok (.iconst 2, 1) := by decide +kernel
theorem dX11_commonDivisor_3 : decode cX11_commonDivisor 3 = .ok (.istore_n 3, 1) := by decide +kernel
theorem dX11_commonDivisor_4 : decode cX11_commonDivisor 4 = .ok (.iload_n 3, 1) := by decide +kernel
theorem dX11_commonDivisor_5 : decode cX11_commonDivisor 5 = .ok (.iload_n 1, 1) := by decide +kernel
theorem dX11_commonDivisor_6 : decode cX11_commonDivisor 6 = .ok (.if_icmp .gt 23, 3) := by decide +kernel
theorem dX11_commonDivisor_9 : decode cX11_commonDivisor 9 = .ok (.iload_n 0, 1) := by decide +kernel
theorem dX11_commonDivisor_10 : decode cX11_commonDivisor 10 = .ok (.iload_n 3, 1) := by decide +kernel
theorem dX11_commonDivisor_11 : decode cX11_commonDivisor 11 = .ok (.irem, 1) := by decide +kernel
theorem dX11_commonDivisor_12 : decode cX11_commonDivisor 12 = .ok (.ifCond .ne 11, 3) := by decide +kernel
theorem dX11_commonDivisor_15 : decode cX11_commonDivisor 15 = .ok (.iload_n 1, 1) := by decide +kernel
theorem dX11_commonDivisor_16 : decode cX11_commonDivisor 16 = .ok (.iload_n 3, 1) := by decide +kernel
theorem dX11_commonDivisor_17 : decode cX11_commonDivisor 17 = .ok (.irem, 1) := by decide +kernel
theorem dX11_commonDivisor_18 : decode cX11_commonDivisor 18 = .ok (.ifCond .ne 5, 3) := by decide +kernel
theorem dX11_commonDivisor_21 : decode cX11_commonDivisor 21 = .ok (.iload_n 3, 1) := by decide +kernel
theorem dX11_commonDivisor_22 : decode cX11_commonDivisor 22 = .ok (.istore_n 2, 1) := by decide +kernel
theorem dX11_commonDivisor_23 : decode cX11_commonDivisor 23 = .ok (.iinc 3 1, 3) := by decide +kernel
theorem dX11_commonDivisor_26 : decode cX11_commonDivisor 26 = .ok (.goto (-22), 3) := by decide +kernel
theorem dX11_commonDivisor_29 : decode cX11_commonDivisor 29 = .ok (.iload_n 2, 1) := by decide +kernel
theorem dX11_commonDivisor_30 : decode cX11_commonDivisor 30 = .ok (.ireturn, 1) := by decide +kernel
set_option maxRecDepth 20000 in
theorem ggX11_fair_X11_hasCorner : GoodIn wsX11_fair wsX11_hasCorner := goodIn_r _ [10, 1, 4, 5, 113, 114, 115, 116, 117, 118, 119, 120, 121, 122, 123, 124, 125, 126, 127, 128, 129, 140, 141, 142, 143, 144, 145] (by decide +kernel) (by decide +kernel)
set_option maxRecDepth 20000 in
theorem gX11_fair_X11_hasCorner : GoodIn wsX11_fair (wsV RX11 180 RX11 yX11_hasCorner wsX11_hasCorner) := goodIn_app (goodIn_of _ (by decide +kernel)) ggX11_fair_X11_hasCorner
set_option maxRecDepth 20000 in
theorem ggX11_fair_X11_startWinners : GoodIn wsX11_fair wsX11_startWinners := goodIn_r _ [14, 1, 4, 15, 16, 17, 18, 19, 20, 21, 22, 23, 24, 25, 26, 27, 28, 29, 30, 31, 32, 33, 34, 35, 36, 37, 38, 39, 40, 41, 42, 43, 44, 45, 46, 47, 48, 49, 50, 51, 52, 53, 54, 55, 56, 57, 58, 59, 60, 61, 62, 63, 64, 65, 66, 67, 68, 69, 70, 71, 72, 73, 74, 75, 76, 77, 78, 79, 80, 81, 82, 83, 84, 85, 86, 87, 88, 89, 90, 91, 92, 93, 94, 95, 96, 97, 98, 99, 100, 101, 102, 103, 104, 105, 106, 113, 114, 115, 116, 117, 118, 119, 120, 121, 122, 123, 124, 125, 126, 127, 128, 129, 140, 141, 142, 143, 144, 145, 146, 147, 148, 149, 150, 151, 152, 153, 154, 155, 156] (by decide +kernel) (by decide +kernel)
set_option maxRecDepth 20000 in
theorem gX11_fair_X11_startWinners : GoodIn wsX11_fair (wsV RX11 240 RX11 yX11_startWinners wsX11_startWinners) := goodIn_app (goodIn_of _ (by decide +kernel)) ggX11_fair_X11_startWinners
set_option maxRecDepth 20000 in
theorem ggX11_fair_X0_holds : GoodIn wsX11_fair wsX0_holds := goodIn_r _ [109] (by decide +kernel) (by decide +kernel)
set_option maxRecDepth 20000 in
theorem gX11_fair_X0_holds : GoodIn wsX11_fair (va_wsS RX11 224 yX0_holds wsX0_holds) := goodIn_app (goodIn_of _ (by decide +kernel)) ggX11_fair_X0_holds
set_option maxRecDepth 20000 in
theorem ggX11_fair_X11_fairness : GoodIn wsX11_fair wsX11_fairness := goodIn_r _ [112] (by decide +kernel) (by decide +kernel)
set_option maxRecDepth 20000 in
theorem gX11_fair_X11_fairness : GoodIn wsX11_fair (va_wsS RX11 244 yX11_fairness wsX11_fairness) := goodIn_app (goodIn_of _ (by decide +kernel)) ggX11_fair_X11_fairness
theorem dX11_fair_0 : decode cX11_fair 0 = .ok (.iload_n 1, 1) := by decide +kernel
theorem dX11_fair_1 : decode cX11_fair 1 = .ok (.ifCond .lt 15, 3) := by decide +kernel
theorem dX11_fair_4 : decode cX11_fair 4 = .ok (.iload_n 1, 1) := by decide +kernel
theorem dX11_fair_5 : decode cX11_fair 5 = .ok (.iconst 3, 1) := by decide +kernel
theorem dX11_fair_6 : decode cX11_fair 6 = .ok (.if_icmp .gt 10, 3) := by decide +kernel
theorem dX11_fair_9 : decode cX11_fair 9 = .ok (.aload_n 0, 1) := by decide +kernel
theorem dX11_fair_10 : decode cX11_fair 10 = .ok (.invokevirtual 180, 3) := by decide +kernel
theorem dX11_fair_13 : decode cX11_fair 13 = .ok (.ifCond .ne 5, 3) := by decide +kernel
theorem dX11_fair_16 : decode cX11_fair 16 = .ok (.iconst (-1), 1) := by decide +kernel
theorem dX11_fair_17 : decode cX11_fair 17 = .ok (.ireturn, 1) := by decide +kernel
theorem dX11_fair_18 : decode cX11_fair 18 = .ok (.aload_n 0, 1) := by decide +kernel
theorem dX11_fair_19 : decode cX11_fair 19 = .ok (.getfield 22, 3) := by decide +kernel
theorem dX11_fair_22 : decode cX11_fair 22 = .ok (.getfield 118, 3) := by decide +kernel
theorem dX11_fair_25 : decode cX11_fair 25 = .ok (.getfield 183, 3) := by decide +kernel
theorem dX11_fair_28 : decode cX11_fair 28 = .ok (.iconst 0, 1) := by decide +kernel
theorem dX11_fair_29 : decode cX11_fair 29 = .ok (.iaload, 1) := by decide +kernel
theorem dX11_fair_30 : decode cX11_fair 30 = .ok (.istore_n 2, 1) := by decide +kernel
theorem dX11_fair_31 : decode cX11_fair 31 = .ok (.aload_n 0, 1) := by decide +kernel
theorem dX11_fair_32 : decode cX11_fair 32 = .ok (.getfield 22, 3) := by decide +kernel
theorem dX11_fair_35 : decode cX11_fair 35 = .ok (.getfield 118, 3) := by decide +kernel
theorem dX11_fair_38 : decode cX11_fair 38 = .ok (.getfield 183, 3) := by decide +kernel
theorem dX11_fair_41 : decode cX11_fair 41 = .ok (.iconst 1, 1) := by decide +kernel
theorem dX11_fair_42 : decode cX11_fair 42 = .ok (.iaload, 1) := by decide +kernel
theorem dX11_fair_43 : decode cX11_fair 43 = .ok (.istore_n 3, 1) := by decide +kernel
theorem dX11_fair_44 : decode cX11_fair 44 = .ok (.iconst 0, 1) := by decide +kernel
theorem dX11_fair_45 : decode cX11_fair 45 = .ok (.istore 4, 2) := by decide +kernel
theorem dX11_fair_47 : decode cX11_fair 47 = .ok (.iconst 0, 1) := by decide +kernel
theorem dX11_fair_48 : decode cX11_fair 48 = .ok (.istore 5, 2) := by decide +kernel
theorem dX11_fair_50 : decode cX11_fair 50 = .ok (.iload 5, 2) := by decide +kernel
theorem dX11_fair_52 : decode cX11_fair 52 = .ok (.aload_n 0, 1) := by decide +kernel
theorem dX11_fair_53 : decode cX11_fair 53 = .ok (.getfield 22, 3) := by decide +kernel
theorem dX11_fair_56 : decode cX11_fair 56 = .ok (.getfield 108, 3) := by decide +kernel
theorem dX11_fair_59 : decode cX11_fair 59 = .ok (.getfield 95, 3) := by decide +kernel
theorem dX11_fair_62 : decode cX11_fair 62 = .ok (.if_icmp .ge 58, 3) := by decide +kernel
theorem dX11_fair_65 : decode cX11_fair 65 = .ok (.aload_n 0, 1) := by decide +kernel
theorem dX11_fair_66 : decode cX11_fair 66 = .ok (.iload 5, 2) := by decide +kernel
theorem dX11_fair_68 : decode cX11_fair 68 = .ok (.iload_n 2, 1) := by decide +kernel
theorem dX11_fair_69 : decode cX11_fair 69 = .ok (.iload_n 3, 1) := by decide +kernel
theorem dX11_fair_70 : decode cX11_fair 70 = .ok (.iadd, 1) := by decide +kernel
theorem dX11_fair_71 : decode cX11_fair 71 = .ok (.invokevirtual 240, 3) := by decide +kernel
theorem dX11_fair_74 : decode cX11_fair 74 = .ok (.lstore 6, 2) := by decide +kernel
theorem dX11_fair_76 : decode cX11_fair 76 = .ok (.lload 6, 2) := by decide +kernel
theorem dX11_fair_78 : decode cX11_fair 78 = .ok (.iload_n 2, 1) := by decide +kernel
theorem dX11_fair_79 : decode cX11_fair 79 = .ok (.iload_n 3, 1) := by decide +kernel
theorem dX11_fair_80 : decode cX11_fair 80 = .ok (.invokestatic 224, 3) := by decide +kernel
theorem dX11_fair_83 : decode cX11_fair 83 = .ok (.istore 8, 2) := by decide +kernel
theorem dX11_fair_85 : decode cX11_fair 85 = .ok (.lload 6, 2) := by decide +kernel
theorem dX11_fair_87 : decode cX11_fair 87 = .ok (.iload_n 3, 1) := by decide +kernel
theorem dX11_fair_88 : decode cX11_fair 88 = .ok (.iload_n 2, 1) := by decide +kernel
theorem dX11_fair_89 : decode cX11_fair 89 = .ok (.invokestatic 224, 3) := by decide +kernel
theorem dX11_fair_92 : decode cX11_fair 92 = .ok (.istore 9, 2) := by decide +kernel
theorem dX11_fair_94 : decode cX11_fair 94 = .ok (.iload 8, 2) := by decide +kernel
theorem dX11_fair_96 : decode cX11_fair 96 = .ok (.iload 9, 2) := by decide +kernel
theorem dX11_fair_98 : decode cX11_fair 98 = .ok (.invokestatic 244, 3) := by decide +kernel
theorem dX11_fair_101 : decode cX11_fair 101 = .ok (.iload_n 1, 1) := by decide +kernel
theorem dX11_fair_102 : decode cX11_fair 102 = .ok (.if_icmp .ne 12, 3) := by decide +kernel
theorem dX11_fair_105 : decode cX11_fair 105 = .ok (.iload 4, 2) := by decide +kernel
theorem dX11_fair_107 : decode cX11_fair 107 = .ok (.iconst 1, 1) := by decide +kernel
theorem dX11_fair_108 : decode cX11_fair 108 = .ok (.iload 5, 2) := by decide +kernel
theorem dX11_fair_110 : decode cX11_fair 110 = .ok (.ishl, 1) := by decide +kernel
theorem dX11_fair_111 : decode cX11_fair 111 = .ok (.ior, 1) := by decide +kernel
theorem dX11_fair_112 : decode cX11_fair 112 = .ok (.istore 4, 2) := by decide +kernel
theorem dX11_fair_114 : decode cX11_fair 114 = .ok (.iinc 5 1, 3) := by decide +kernel
theorem dX11_fair_117 : decode cX11_fair 117 = .ok (.goto (-67), 3) := by decide +kernel
theorem dX11_fair_120 : decode cX11_fair 120 = .ok (.iload 4, 2) := by decide +kernel
theorem dX11_fair_122 : decode cX11_fair 122 = .ok (.ireturn, 1) := by decide +kernel
