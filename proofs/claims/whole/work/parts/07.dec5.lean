theorem dX12_term_0 : decode cX12_term 0 = .ok (.aload_n 0, 1) := by decide +kernel
theorem dX12_term_1 : decode cX12_term 1 = .ok (.invokevirtual 167, 3) := by decide +kernel
theorem dX12_term_4 : decode cX12_term 4 = .ok (.ifCond .ne 5, 3) := by decide +kernel
theorem dX12_term_7 : decode cX12_term 7 = .ok (.iconst 0, 1) := by decide +kernel
theorem dX12_term_8 : decode cX12_term 8 = .ok (.ireturn, 1) := by decide +kernel
theorem dX12_term_9 : decode cX12_term 9 = .ok (.aload_n 0, 1) := by decide +kernel
theorem dX12_term_10 : decode cX12_term 10 = .ok (.invokevirtual 90, 3) := by decide +kernel
theorem dX12_term_13 : decode cX12_term 13 = .ok (.bipush 42, 2) := by decide +kernel
theorem dX12_term_15 : decode cX12_term 15 = .ok (.if_icmp .eq 12, 3) := by decide +kernel
theorem dX12_term_18 : decode cX12_term 18 = .ok (.aload_n 0, 1) := by decide +kernel
theorem dX12_term_19 : decode cX12_term 19 = .ok (.invokevirtual 90, 3) := by decide +kernel
theorem dX12_term_22 : decode cX12_term 22 = .ok (.bipush 47, 2) := by decide +kernel
theorem dX12_term_24 : decode cX12_term 24 = .ok (.if_icmp .ne 51, 3) := by decide +kernel
theorem dX12_term_27 : decode cX12_term 27 = .ok (.aload_n 0, 1) := by decide +kernel
theorem dX12_term_28 : decode cX12_term 28 = .ok (.getfield 7, 3) := by decide +kernel
theorem dX12_term_31 : decode cX12_term 31 = .ok (.aload_n 0, 1) := by decide +kernel
theorem dX12_term_32 : decode cX12_term 32 = .ok (.getfield 87, 3) := by decide +kernel
theorem dX12_term_35 : decode cX12_term 35 = .ok (.baload, 1) := by decide +kernel
theorem dX12_term_36 : decode cX12_term 36 = .ok (.bipush 42, 2) := by decide +kernel
theorem dX12_term_38 : decode cX12_term 38 = .ok (.if_icmp .ne 7, 3) := by decide +kernel
theorem dX12_term_41 : decode cX12_term 41 = .ok (.iconst 4, 1) := by decide +kernel
theorem dX12_term_42 : decode cX12_term 42 = .ok (.goto 4, 3) := by decide +kernel
theorem dX12_term_45 : decode cX12_term 45 = .ok (.iconst 5, 1) := by decide +kernel
theorem dX12_term_46 : decode cX12_term 46 = .ok (.istore_n 1, 1) := by decide +kernel
theorem dX12_term_47 : decode cX12_term 47 = .ok (.aload_n 0, 1) := by decide +kernel
theorem dX12_term_48 : decode cX12_term 48 = .ok (.dup, 1) := by decide +kernel
theorem dX12_term_49 : decode cX12_term 49 = .ok (.getfield 87, 3) := by decide +kernel
theorem dX12_term_52 : decode cX12_term 52 = .ok (.iconst 1, 1) := by decide +kernel
theorem dX12_term_53 : decode cX12_term 53 = .ok (.iadd, 1) := by decide +kernel
theorem dX12_term_54 : decode cX12_term 54 = .ok (.putfield 87, 3) := by decide +kernel
theorem dX12_term_57 : decode cX12_term 57 = .ok (.aload_n 0, 1) := by decide +kernel
theorem dX12_term_58 : decode cX12_term 58 = .ok (.invokevirtual 167, 3) := by decide +kernel
theorem dX12_term_61 : decode cX12_term 61 = .ok (.ifCond .ne 5, 3) := by decide +kernel
theorem dX12_term_64 : decode cX12_term 64 = .ok (.iconst 0, 1) := by decide +kernel
theorem dX12_term_65 : decode cX12_term 65 = .ok (.ireturn, 1) := by decide +kernel
theorem dX12_term_66 : decode cX12_term 66 = .ok (.aload_n 0, 1) := by decide +kernel
theorem dX12_term_67 : decode cX12_term 67 = .ok (.iload_n 1, 1) := by decide +kernel
theorem dX12_term_68 : decode cX12_term 68 = .ok (.iconst 0, 1) := by decide +kernel
theorem dX12_term_69 : decode cX12_term 69 = .ok (.invokevirtual 153, 3) := by decide +kernel
theorem dX12_term_72 : decode cX12_term 72 = .ok (.goto (-63), 3) := by decide +kernel
theorem dX12_term_75 : decode cX12_term 75 = .ok (.iconst 1, 1) := by decide +kernel
theorem dX12_term_76 : decode cX12_term 76 = .ok (.ireturn, 1) := by decide +kernel
set_option maxRecDepth 20000 in
theorem ggX12_sum_X12_term : GoodIn wsX12_sum wsX12_term := goodIn_r _ [7, 1, 2, 8, 9, 10, 6, 11, 12, 13, 14, 15, 16, 17, 18, 19, 20, 21, 22, 23, 24, 25, 26, 27, 28, 29, 30, 31, 32, 33, 34, 35, 36, 37, 38, 39, 40, 41, 42, 43, 44, 45, 46, 47, 48, 49, 50, 51, 52, 53, 54, 55, 56, 57, 58, 59, 60, 61, 62, 63, 64, 65, 66, 67, 68, 69, 70, 71, 72, 73, 74, 75, 76, 77, 78, 79, 80, 81, 82, 83, 84, 85, 86, 87, 88, 89, 90, 91, 92, 93, 94, 95, 96, 97, 98, 99, 100, 101, 102, 103, 104, 105, 106, 107, 108] (by decide +kernel) (by decide +kernel)
set_option maxRecDepth 20000 in
theorem gX12_sum_X12_term : GoodIn wsX12_sum (wsV RX12 171 RX12 yX12_term wsX12_term) := goodIn_app (goodIn_of _ (by decide +kernel)) ggX12_sum_X12_term
set_option maxRecDepth 20000 in
theorem ggX12_sum_X12_see : GoodIn wsX12_sum wsX12_see := goodIn_r _ [17, 2, 18, 1, 72, 73, 74, 75, 76, 77, 78, 79, 80, 81, 82, 83, 84, 85, 86, 87, 88, 89, 90, 91, 92, 93, 94, 95, 96, 97, 98, 99, 100, 101, 102, 103, 104, 105, 106, 107, 108] (by decide +kernel) (by decide +kernel)
set_option maxRecDepth 20000 in
theorem gX12_sum_X12_see : GoodIn wsX12_sum (wsV RX12 90 RX12 yX12_see wsX12_see) := goodIn_app (goodIn_of _ (by decide +kernel)) ggX12_sum_X12_see
set_option maxRecDepth 20000 in
theorem ggX12_sum_X12_puts : GoodIn wsX12_sum wsX12_puts := goodIn_r _ [43, 44, 45, 46, 72, 73, 74, 75, 76, 77, 78, 79, 80, 81, 82, 83, 84, 85, 86, 87, 88, 89, 90, 91, 92, 93, 94, 95, 96, 97, 98, 99, 100, 101, 102, 103, 104, 105, 106, 107, 108] (by decide +kernel) (by decide +kernel)
set_option maxRecDepth 20000 in
theorem gX12_sum_X12_puts : GoodIn wsX12_sum (wsV RX12 153 RX12 yX12_puts wsX12_puts) := goodIn_app (goodIn_of _ (by decide +kernel)) ggX12_sum_X12_puts
theorem dX12_sum_0 : decode cX12_sum 0 = .ok (.aload_n 0, 1) := by decide +kernel
theorem dX12_sum_1 : decode cX12_sum 1 = .ok (.invokevirtual 171, 3) := by decide +kernel
theorem dX12_sum_4 : decode cX12_sum 4 = .ok (.ifCond .ne 5, 3) := by decide +kernel
theorem dX12_sum_7 : decode cX12_sum 7 = .ok (.iconst 0, 1) := by decide +kernel
theorem dX12_sum_8 : decode cX12_sum 8 = .ok (.ireturn, 1) := by decide +kernel
theorem dX12_sum_9 : decode cX12_sum 9 = .ok (.aload_n 0, 1) := by decide +kernel
theorem dX12_sum_10 : decode cX12_sum 10 = .ok (.invokevirtual 90, 3) := by decide +kernel
theorem dX12_sum_13 : decode cX12_sum 13 = .ok (.bipush 43, 2) := by decide +kernel
theorem dX12_sum_15 : decode cX12_sum 15 = .ok (.if_icmp .eq 12, 3) := by decide +kernel
theorem dX12_sum_18 : decode cX12_sum 18 = .ok (.aload_n 0, 1) := by decide +kernel
theorem dX12_sum_19 : decode cX12_sum 19 = .ok (.invokevirtual 90, 3) := by decide +kernel
theorem dX12_sum_22 : decode cX12_sum 22 = .ok (.bipush 45, 2) := by decide +kernel
theorem dX12_sum_24 : decode cX12_sum 24 = .ok (.if_icmp .ne 51, 3) := by decide +kernel
theorem dX12_sum_27 : decode cX12_sum 27 = .ok (.aload_n 0, 1) := by decide +kernel
theorem dX12_sum_28 : decode cX12_sum 28 = .ok (.getfield 7, 3) := by decide +kernel
theorem dX12_sum_31 : decode cX12_sum 31 = .ok (.aload_n 0, 1) := by decide +kernel
theorem dX12_sum_32 : decode cX12_sum 32 = .ok (.getfield 87, 3) := by decide +kernel
theorem dX12_sum_35 : decode cX12_sum 35 = .ok (.baload, 1) := by decide +kernel
theorem dX12_sum_36 : decode cX12_sum 36 = .ok (.bipush 43, 2) := by decide +kernel
theorem dX12_sum_38 : decode cX12_sum 38 = .ok (.if_icmp .ne 7, 3) := by decide +kernel
theorem dX12_sum_41 : decode cX12_sum 41 = .ok (.iconst 2, 1) := by decide +kernel
theorem dX12_sum_42 : decode cX12_sum 42 = .ok (.goto 4, 3) := by decide +kernel
theorem dX12_sum_45 : decode cX12_sum 45 = .ok (.iconst 3, 1) := by decide +kernel
theorem dX12_sum_46 : decode cX12_sum 46 = .ok (.istore_n 1, 1) := by decide +kernel
theorem dX12_sum_47 : decode cX12_sum 47 = .ok (.aload_n 0, 1) := by decide +kernel
theorem dX12_sum_48 : decode cX12_sum 48 = .ok (.dup, 1) := by decide +kernel
theorem dX12_sum_49 : decode cX12_sum 49 = .ok (.getfield 87, 3) := by decide +kernel
theorem dX12_sum_52 : decode cX12_sum 52 = .ok (.iconst 1, 1) := by decide +kernel
theorem dX12_sum_53 : decode cX12_sum 53 = .ok (.iadd, 1) := by decide +kernel
theorem dX12_sum_54 : decode cX12_sum 54 = .ok (.putfield 87, 3) := by decide +kernel
theorem dX12_sum_57 : decode cX12_sum 57 = .ok (.aload_n 0, 1) := by decide +kernel
theorem dX12_sum_58 : decode cX12_sum 58 = .ok (.invokevirtual 171, 3) := by decide +kernel
theorem dX12_sum_61 : decode cX12_sum 61 = .ok (.ifCond .ne 5, 3) := by decide +kernel
theorem dX12_sum_64 : decode cX12_sum 64 = .ok (.iconst 0, 1) := by decide +kernel
theorem dX12_sum_65 : decode cX12_sum 65 = .ok (.ireturn, 1) := by decide +kernel
theorem dX12_sum_66 : decode cX12_sum 66 = .ok (.aload_n 0, 1) := by decide +kernel
theorem dX12_sum_67 : decode cX12_sum 67 = .ok (.iload_n 1, 1) := by decide +kernel
theorem dX12_sum_68 : decode cX12_sum 68 = .ok (.iconst 0, 1) := by decide +kernel
theorem dX12_sum_69 : decode cX12_sum 69 = .ok (.invokevirtual 153, 3) := by decide +kernel
theorem dX12_sum_72 : decode cX12_sum 72 = .ok (.goto (-63), 3) := by decide +kernel
theorem dX12_sum_75 : decode cX12_sum 75 = .ok (.iconst 1, 1) := by decide +kernel
theorem dX12_sum_76 : decode cX12_sum 76 = .ok (.ireturn, 1) := by decide +kernel
set_option maxRecDepth 20000 in
theorem ggX12_compare_X12_sum : GoodIn wsX12_compare wsX12_sum := goodIn_r _ [8, 3, 1, 9, 10, 11, 7, 12, 13, 14, 15, 16, 17, 18, 19, 20, 21, 22, 2, 23, 24, 25, 26, 27, 28, 29, 30, 31, 32, 33, 34, 35, 36, 37, 38, 39, 40, 41, 42, 43, 44, 45, 46, 47, 48, 49, 50, 51, 52, 53, 54, 55, 56, 57, 58, 59, 60, 61, 62, 63, 64, 65, 66, 67, 68, 69, 70, 71, 72, 73, 74, 75, 76, 77, 78, 79, 80, 81, 82, 83, 84, 85, 86, 87, 88, 89, 90, 91, 92, 93, 94, 95, 96, 97, 98, 99, 100, 101, 102, 103, 104, 105, 106, 107, 108, 109, 110, 111, 112] (by decide +kernel) (by decide +kernel)
set_option maxRecDepth 20000 in
theorem gX12_compare_X12_sum : GoodIn wsX12_compare (wsV RX12 174 RX12 yX12_sum wsX12_sum) := goodIn_app (goodIn_of _ (by decide +kernel)) ggX12_compare_X12_sum
set_option maxRecDepth 20000 in
theorem ggX12_compare_X12_see : GoodIn wsX12_compare wsX12_see := goodIn_r _ [22, 1, 2, 3, 76, 77, 78, 79, 80, 81, 82, 83, 84, 85, 86, 87, 88, 89, 90, 91, 92, 93, 94, 95, 96, 97, 98, 99, 100, 101, 102, 103, 104, 105, 106, 107, 108, 109, 110, 111, 112] (by decide +kernel) (by decide +kernel)
set_option maxRecDepth 20000 in
theorem gX12_compare_X12_see : GoodIn wsX12_compare (wsV RX12 90 RX12 yX12_see wsX12_see) := goodIn_app (goodIn_of _ (by decide +kernel)) ggX12_compare_X12_see
set_option maxRecDepth 20000 in
theorem ggX12_compare_X12_fails : GoodIn wsX12_compare wsX12_fails := goodIn_r _ [34, 35, 76, 77, 78, 79, 80, 81, 82, 83, 84, 85, 86, 87, 88, 89, 90, 91, 92, 93, 94, 95, 96, 97, 98, 99, 100, 101, 102, 103, 104, 105, 106, 107, 108, 109, 110, 111, 112] (by decide +kernel) (by decide +kernel)
set_option maxRecDepth 20000 in
theorem gX12_compare_X12_fails : GoodIn wsX12_compare (wsV RX12 108 RX12 yX12_fails wsX12_fails) := goodIn_app (goodIn_of _ (by decide +kernel)) ggX12_compare_X12_fails
set_option maxRecDepth 20000 in
theorem ggX12_compare_X12_makes : GoodIn wsX12_compare wsX12_makes := goodIn_r _ [42, 43, 31, 32, 33, 7, 34, 35, 76, 77, 78, 79, 80, 81, 82, 83, 84, 85, 86, 87, 88, 89, 90, 91, 92, 93, 94, 95, 96, 97, 98, 99, 100, 101, 102, 103, 104, 105, 106, 107, 108, 109, 110, 111, 112] (by decide +kernel) (by decide +kernel)
set_option maxRecDepth 20000 in
theorem gX12_compare_X12_makes : GoodIn wsX12_compare (wsV RX12 161 RX12 yX12_makes wsX12_makes) := goodIn_app (goodIn_of _ (by decide +kernel)) ggX12_compare_X12_makes
set_option maxRecDepth 20000 in
theorem ggX12_compare_X12_puts : GoodIn wsX12_compare wsX12_puts := goodIn_r _ [47, 48, 49, 50, 76, 77, 78, 79, 80, 81, 82, 83, 84, 85, 86, 87, 88, 89, 90, 91, 92, 93, 94, 95, 96, 97, 98, 99, 100, 101, 102, 103, 104, 105, 106, 107, 108, 109, 110, 111, 112] (by decide +kernel) (by decide +kernel)
set_option maxRecDepth 20000 in
theorem gX12_compare_X12_puts : GoodIn wsX12_compare (wsV RX12 153 RX12 yX12_puts wsX12_puts) := goodIn_app (goodIn_of _ (by decide +kernel)) ggX12_compare_X12_puts
theorem dX12_compare_0 : decode cX12_compare 0 = .ok (.aload_n 0, 1) := by decide +kernel
theorem dX12_compare_1 : decode cX12_compare 1 = .ok (.invokevirtual 174, 3) := by decide +kernel
theorem dX12_compare_4 : decode cX12_compare 4 = .ok (.ifCond .ne 5, 3) := by decide +kernel
theorem dX12_compare_7 : decode cX12_compare 7 = .ok (.iconst 0, 1) := by decide +kernel
theorem dX12_compare_8 : decode cX12_compare 8 = .ok (.ireturn, 1) := by decide +kernel
theorem dX12_compare_9 : decode cX12_compare 9 = .ok (.aload_n 0, 1) := by decide +kernel
theorem dX12_compare_10 : decode cX12_compare 10 = .ok (.invokevirtual 90, 3) := by decide +kernel
theorem dX12_compare_13 : decode cX12_compare 13 = .ok (.istore_n 1, 1) := by decide +kernel
theorem dX12_compare_14 : decode cX12_compare 14 = .ok (.aload_n 0, 1) := by decide +kernel
theorem dX12_compare_15 : decode cX12_compare 15 = .ok (.getfield 87, 3) := by decide +kernel
theorem dX12_compare_18 : decode cX12_compare 18 = .ok (.istore_n 2, 1) := by decide +kernel
theorem dX12_compare_19 : decode cX12_compare 19 = .ok (.iload_n 1, 1) := by decide +kernel
theorem dX12_compare_20 : decode cX12_compare 20 = .ok (.bipush 60, 2) := by decide +kernel
theorem dX12_compare_22 : decode cX12_compare 22 = .ok (.if_icmp .eq 22, 3) := by decide +kernel
theorem dX12_compare_25 : decode cX12_compare 25 = .ok (.iload_n 1, 1) := by decide +kernel
theorem dX12_compare_26 : decode cX12_compare 26 = .ok (.bipush 61, 2) := by decide +kernel
theorem dX12_compare_28 : decode cX12_compare 28 = .ok (.if_icmp .eq 16, 3) := by decide +kernel
theorem dX12_compare_31 : decode cX12_compare 31 = .ok (.iload_n 1, 1) := by decide +kernel
theorem dX12_compare_32 : decode cX12_compare 32 = .ok (.bipush 62, 2) := by decide +kernel
theorem dX12_compare_34 : decode cX12_compare 34 = .ok (.if_icmp .eq 10, 3) := by decide +kernel
theorem dX12_compare_37 : decode cX12_compare 37 = .ok (.aload_n 0, 1) := by decide +kernel
theorem dX12_compare_38 : decode cX12_compare 38 = .ok (.iconst 0, 1) := by decide +kernel
theorem dX12_compare_39 : decode cX12_compare 39 = .ok (.iload_n 2, 1) := by decide +kernel
theorem dX12_compare_40 : decode cX12_compare 40 = .ok (.invokevirtual 108, 3) := by decide +kernel
theorem dX12_compare_43 : decode cX12_compare 43 = .ok (.ireturn, 1) := by decide +kernel
theorem dX12_compare_44 : decode cX12_compare 44 = .ok (.aload_n 0, 1) := by decide +kernel
theorem dX12_compare_45 : decode cX12_compare 45 = .ok (.dup, 1) := by decide +kernel
theorem dX12_compare_46 : decode cX12_compare 46 = .ok (.getfield 87, 3) := by decide +kernel
theorem dX12_compare_49 : decode cX12_compare 49 = .ok (.iconst 1, 1) := by decide +kernel
theorem dX12_compare_50 : decode cX12_compare 50 = .ok (.iadd, 1) := by decide +kernel
theorem dX12_compare_51 : decode cX12_compare 51 = .ok (.putfield 87, 3) := by decide +kernel
theorem dX12_compare_54 : decode cX12_compare 54 = .ok (.iload_n 1, 1) := by decide +kernel
theorem dX12_compare_55 : decode cX12_compare 55 = .ok (.bipush 61, 2) := by decide +kernel
theorem dX12_compare_57 : decode cX12_compare 57 = .ok (.if_icmp .eq 32, 3) := by decide +kernel
theorem dX12_compare_60 : decode cX12_compare 60 = .ok (.aload_n 0, 1) := by decide +kernel
theorem dX12_compare_61 : decode cX12_compare 61 = .ok (.getfield 87, 3) := by decide +kernel
theorem dX12_compare_64 : decode cX12_compare 64 = .ok (.aload_n 0, 1) := by decide +kernel
theorem dX12_compare_65 : decode cX12_compare 65 = .ok (.getfield 76, 3) := by decide +kernel
theorem dX12_compare_68 : decode cX12_compare 68 = .ok (.if_icmp .ge 21, 3) := by decide +kernel
theorem dX12_compare_71 : decode cX12_compare 71 = .ok (.aload_n 0, 1) := by decide +kernel
theorem dX12_compare_72 : decode cX12_compare 72 = .ok (.getfield 7, 3) := by decide +kernel
theorem dX12_compare_75 : decode cX12_compare 75 = .ok (.aload_n 0, 1) := by decide +kernel
theorem dX12_compare_76 : decode cX12_compare 76 = .ok (.getfield 87, 3) := by decide +kernel
theorem dX12_compare_79 : decode cX12_compare 79 = .ok (.baload, 1) := by decide +kernel
theorem dX12_compare_80 : decode cX12_compare 80 = .ok (.bipush 61, 2) := by decide +kernel
theorem dX12_compare_82 : decode cX12_compare 82 = .ok (.if_icmp .ne 7, 3) := by decide +kernel
theorem dX12_compare_85 : decode cX12_compare 85 = .ok (.iconst 1, 1) := by decide +kernel
theorem dX12_compare_86 : decode cX12_compare 86 = .ok (.goto 4, 3) := by decide +kernel
theorem dX12_compare_89 : decode cX12_compare 89 = .ok (.iconst 0, 1) := by decide +kernel
theorem dX12_compare_90 : decode cX12_compare 90 = .ok (.istore_n 3, 1) := by decide +kernel
theorem dX12_compare_91 : decode cX12_compare 91 = .ok (.iload_n 3, 1) := by decide +kernel
theorem dX12_compare_92 : decode cX12_compare 92 = .ok (.ifCond .eq 13, 3) := by decide +kernel
theorem dX12_compare_95 : decode cX12_compare 95 = .ok (.aload_n 0, 1) := by decide +kernel
theorem dX12_compare_96 : decode cX12_compare 96 = .ok (.dup, 1) := by decide +kernel
theorem dX12_compare_97 : decode cX12_compare 97 = .ok (.getfield 87, 3) := by decide +kernel
theorem dX12_compare_100 : decode cX12_compare 100 = .ok (.iconst 1, 1) := by decide +kernel
theorem dX12_compare_101 : decode cX12_compare 101 = .ok (.iadd, 1) := by decide +kernel
theorem dX12_compare_102 : decode cX12_compare 102 = .ok (.putfield 87, 3) := by decide +kernel
theorem dX12_compare_105 : decode cX12_compare 105 = .ok (.aload_n 0, 1) := by decide +kernel
theorem dX12_compare_106 : decode cX12_compare 106 = .ok (.iload_n 2, 1) := by decide +kernel
theorem dX12_compare_107 : decode cX12_compare 107 = .ok (.invokevirtual 161, 3) := by decide +kernel
theorem dX12_compare_110 : decode cX12_compare 110 = .ok (.ifCond .ne 5, 3) := by decide +kernel
theorem dX12_compare_113 : decode cX12_compare 113 = .ok (.iconst 0, 1) := by decide +kernel
theorem dX12_compare_114 : decode cX12_compare 114 = .ok (.ireturn, 1) := by decide +kernel
theorem dX12_compare_115 : decode cX12_compare 115 = .ok (.iload_n 1, 1) := by decide +kernel
theorem dX12_compare_116 : decode cX12_compare 116 = .ok (.bipush 60, 2) := by decide +kernel
theorem dX12_compare_118 : decode cX12_compare 118 = .ok (.if_icmp .ne 15, 3) := by decide +kernel
theorem dX12_compare_121 : decode cX12_compare 121 = .ok (.iload_n 3, 1) := by decide +kernel
theorem dX12_compare_122 : decode cX12_compare 122 = .ok (.ifCond .eq 7, 3) := by decide +kernel
theorem dX12_compare_125 : decode cX12_compare 125 = .ok (.iconst 1, 1) := by decide +kernel
theorem dX12_compare_126 : decode cX12_compare 126 = .ok (.goto 26, 3) := by decide +kernel
theorem dX12_compare_129 : decode cX12_compare 129 = .ok (.iconst 0, 1) := by decide +kernel
theorem dX12_compare_130 : decode cX12_compare 130 = .ok (.goto 22, 3) := by decide +kernel
theorem dX12_compare_133 : decode cX12_compare 133 = .ok (.iload_n 1, 1) := by decide +kernel
theorem dX12_compare_134 : decode cX12_compare 134 = .ok (.bipush 61, 2) := by decide +kernel
theorem dX12_compare_136 : decode cX12_compare 136 = .ok (.if_icmp .ne 7, 3) := by decide +kernel
theorem dX12_compare_139 : decode cX12_compare 139 = .ok (.iconst 2, 1) := by decide +kernel
theorem dX12_compare_140 : decode cX12_compare 140 = .ok (.goto 12, 3) := by decide +kernel
theorem dX12_compare_143 : decode cX12_compare 143 = .ok (.iload_n 3, 1) := by decide +kernel
theorem dX12_compare_144 : decode cX12_compare 144 = .ok (.ifCond .eq 7, 3) := by decide +kernel
theorem dX12_compare_147 : decode cX12_compare 147 = .ok (.iconst 3, 1) := by decide +kernel
theorem dX12_compare_148 : decode cX12_compare 148 = .ok (.goto 4, 3) := by decide +kernel
theorem dX12_compare_151 : decode cX12_compare 151 = .ok (.iconst 4, 1) := by decide +kernel
theorem dX12_compare_152 : decode cX12_compare 152 = .ok (.istore 4, 2) := by decide +kernel
theorem dX12_compare_154 : decode cX12_compare 154 = .ok (.aload_n 0, 1) := by decide +kernel
theorem dX12_compare_155 : decode cX12_compare 155 = .ok (.invokevirtual 174, 3) := by decide +kernel
theorem dX12_compare_158 : decode cX12_compare 158 = .ok (.ifCond .ne 5, 3) := by decide +kernel
theorem dX12_compare_161 : decode cX12_compare 161 = .ok (.iconst 0, 1) := by decide +kernel
theorem dX12_compare_162 : decode cX12_compare 162 = .ok (.ireturn, 1) := by decide +kernel
theorem dX12_compare_163 : decode cX12_compare 163 = .ok (.aload_n 0, 1) := by decide +kernel
theorem dX12_compare_164 : decode cX12_compare 164 = .ok (.bipush 6, 2) := by decide +kernel
theorem dX12_compare_166 : decode cX12_compare 166 = .ok (.iload 4, 2) := by decide +kernel
theorem dX12_compare_168 : decode cX12_compare 168 = .ok (.iadd, 1) := by decide +kernel
theorem dX12_compare_169 : decode cX12_compare 169 = .ok (.iconst 0, 1) := by decide +kernel
theorem dX12_compare_170 : decode cX12_compare 170 = .ok (.invokevirtual 153, 3) := by decide +kernel
theorem dX12_compare_173 : decode cX12_compare 173 = .ok (.iconst 1, 1) := by decide +kernel
theorem dX12_compare_174 : decode cX12_compare 174 = .ok (.ireturn, 1) := by decide +kernel
set_option maxRecDepth 20000 in
theorem ggX12_fact_X12_see : GoodIn wsX12_fact wsX12_see := goodIn_r _ [7, 2, 8, 9, 88, 89, 90, 91, 92, 93, 94, 95, 96, 97, 98, 99, 100, 101, 102, 103, 104, 105, 106, 107, 108, 109, 110, 111, 112, 113, 114, 115, 116, 117, 118, 119, 120, 121, 122, 123, 124] (by decide +kernel) (by decide +kernel)
set_option maxRecDepth 20000 in
theorem gX12_fact_X12_see : GoodIn wsX12_fact (wsV RX12 90 RX12 yX12_see wsX12_see) := goodIn_app (goodIn_of _ (by decide +kernel)) ggX12_fact_X12_see
set_option maxRecDepth 20000 in
theorem ggX12_fact_X12_isWord : GoodIn wsX12_fact wsX12_isWord := goodIn_r _ [13, 2, 9, 3, 4, 5, 6, 7, 8, 14, 15, 16, 17, 88, 89, 90, 91, 92, 93, 94, 95, 96, 97, 98, 99, 100, 101, 102, 103, 104, 105, 106, 107, 108, 109, 110, 111, 112, 113, 114, 115, 116, 117, 118, 119, 120, 121, 122, 123, 124] (by decide +kernel) (by decide +kernel)
set_option maxRecDepth 20000 in
theorem gX12_fact_X12_isWord : GoodIn wsX12_fact (wsV RX12 98 RX12 yX12_isWord wsX12_isWord) := goodIn_app (goodIn_of _ (by decide +kernel)) ggX12_fact_X12_isWord
set_option maxRecDepth 20000 in
theorem ggX12_fact_X12_opens : GoodIn wsX12_fact wsX12_opens := goodIn_r _ [21, 22, 2, 23, 24, 25, 26, 27, 6, 28, 29, 88, 89, 90, 91, 92, 93, 94, 95, 96, 97, 98, 99, 100, 101, 102, 103, 104, 105, 106, 107, 108, 109, 110, 111, 112, 113, 114, 115, 116, 117, 118, 119, 120, 121, 122, 123, 124] (by decide +kernel) (by decide +kernel)
set_option maxRecDepth 20000 in
theorem gX12_fact_X12_opens : GoodIn wsX12_fact (wsV RX12 179 RX12 yX12_opens wsX12_opens) := goodIn_app (goodIn_of _ (by decide +kernel)) ggX12_fact_X12_opens
set_option maxRecDepth 20000 in
theorem ggX12_fact_X12_passWord : GoodIn wsX12_fact wsX12_passWord := goodIn_r _ [33, 2, 14, 15, 16, 6, 17, 8, 9, 88, 89, 90, 91, 92, 93, 94, 95, 96, 97, 98, 99, 100, 101, 102, 103, 104, 105, 106, 107, 108, 109, 110, 111, 112, 113, 114, 115, 116, 117, 118, 119, 120, 121, 122, 123, 124] (by decide +kernel) (by decide +kernel)
set_option maxRecDepth 20000 in
theorem gX12_fact_X12_passWord : GoodIn wsX12_fact (wsV RX12 102 RX12 yX12_passWord wsX12_passWord) := goodIn_app (goodIn_of _ (by decide +kernel)) ggX12_fact_X12_passWord
set_option maxRecDepth 20000 in
theorem ggX12_fact_X12_compare : GoodIn wsX12_fact wsX12_compare := goodIn_r _ [37, 2, 8, 9, 38, 39, 40, 6, 41, 42, 43, 44, 45, 46, 47, 48, 49, 50, 51, 3, 4, 5, 7, 52, 53, 54, 55, 56, 57, 58, 59, 25, 26, 27, 28, 29, 60, 61, 62, 63, 64, 65, 66, 67, 68, 69, 70, 71, 72, 73, 74, 75, 76, 77, 78, 79, 80, 81, 82, 83, 84, 85, 86, 87, 10, 11, 12, 13, 14, 15, 16, 17, 30, 31, 32, 33, 88, 89, 90, 91, 92, 93, 94, 95, 96, 97, 98, 99, 100, 101, 102, 103, 104, 105, 106, 107, 108, 109, 110, 111, 112, 113, 114, 115, 116, 117, 118, 119, 120, 121, 122, 123, 124] (by decide +kernel) (by decide +kernel)
set_option maxRecDepth 20000 in
theorem gX12_fact_X12_compare : GoodIn wsX12_fact (wsV RX12 182 RX12 yX12_compare wsX12_compare) := goodIn_app (goodIn_of _ (by decide +kernel)) ggX12_fact_X12_compare
theorem dX12_fact_0 : decode cX12_fact 0 = .ok (.iconst 1, 1) := by decide +kernel
theorem dX12_fact_1 : decode cX12_fact 1 = .ok (.istore_n 1, 1) := by decide +kernel
theorem dX12_fact_2 : decode cX12_fact 2 = .ok (.iload_n 1, 1) := by decide +kernel
theorem dX12_fact_3 : decode cX12_fact 3 = .ok (.ifCond .eq 72, 3) := by decide +kernel
theorem dX12_fact_6 : decode cX12_fact 6 = .ok (.iconst 0, 1) := by decide +kernel
theorem dX12_fact_7 : decode cX12_fact 7 = .ok (.istore_n 1, 1) := by decide +kernel
theorem dX12_fact_8 : decode cX12_fact 8 = .ok (.aload_n 0, 1) := by decide +kernel
theorem dX12_fact_9 : decode cX12_fact 9 = .ok (.invokevirtual 90, 3) := by decide +kernel
theorem dX12_fact_12 : decode cX12_fact 12 = .ok (.istore_n 2, 1) := by decide +kernel
theorem dX12_fact_13 : decode cX12_fact 13 = .ok (.aload_n 0, 1) := by decide +kernel
theorem dX12_fact_14 : decode cX12_fact 14 = .ok (.ldc2_w 177, 3) := by decide +kernel
theorem dX12_fact_17 : decode cX12_fact 17 = .ok (.invokevirtual 98, 3) := by decide +kernel
theorem dX12_fact_20 : decode cX12_fact 20 = .ok (.ifCond .eq 23, 3) := by decide +kernel
theorem dX12_fact_23 : decode cX12_fact 23 = .ok (.aload_n 0, 1) := by decide +kernel
theorem dX12_fact_24 : decode cX12_fact 24 = .ok (.bipush 11, 2) := by decide +kernel
theorem dX12_fact_26 : decode cX12_fact 26 = .ok (.invokevirtual 179, 3) := by decide +kernel
theorem dX12_fact_29 : decode cX12_fact 29 = .ok (.ifCond .ne 5, 3) := by decide +kernel
theorem dX12_fact_32 : decode cX12_fact 32 = .ok (.iconst 0, 1) := by decide +kernel
theorem dX12_fact_33 : decode cX12_fact 33 = .ok (.ireturn, 1) := by decide +kernel
theorem dX12_fact_34 : decode cX12_fact 34 = .ok (.aload_n 0, 1) := by decide +kernel
theorem dX12_fact_35 : decode cX12_fact 35 = .ok (.invokevirtual 102, 3) := by decide +kernel
theorem dX12_fact_38 : decode cX12_fact 38 = .ok (.iconst 1, 1) := by decide +kernel
theorem dX12_fact_39 : decode cX12_fact 39 = .ok (.istore_n 1, 1) := by decide +kernel
theorem dX12_fact_40 : decode cX12_fact 40 = .ok (.goto 32, 3) := by decide +kernel
theorem dX12_fact_43 : decode cX12_fact 43 = .ok (.iload_n 2, 1) := by decide +kernel
theorem dX12_fact_44 : decode cX12_fact 44 = .ok (.bipush 91, 2) := by decide +kernel
theorem dX12_fact_46 : decode cX12_fact 46 = .ok (.if_icmp .ne 26, 3) := by decide +kernel
theorem dX12_fact_49 : decode cX12_fact 49 = .ok (.aload_n 0, 1) := by decide +kernel
theorem dX12_fact_50 : decode cX12_fact 50 = .ok (.bipush 91, 2) := by decide +kernel
theorem dX12_fact_52 : decode cX12_fact 52 = .ok (.invokevirtual 179, 3) := by decide +kernel
theorem dX12_fact_55 : decode cX12_fact 55 = .ok (.ifCond .ne 5, 3) := by decide +kernel
theorem dX12_fact_58 : decode cX12_fact 58 = .ok (.iconst 0, 1) := by decide +kernel
theorem dX12_fact_59 : decode cX12_fact 59 = .ok (.ireturn, 1) := by decide +kernel
theorem dX12_fact_60 : decode cX12_fact 60 = .ok (.aload_n 0, 1) := by decide +kernel
theorem dX12_fact_61 : decode cX12_fact 61 = .ok (.dup, 1) := by decide +kernel
theorem dX12_fact_62 : decode cX12_fact 62 = .ok (.getfield 87, 3) := by decide +kernel
theorem dX12_fact_65 : decode cX12_fact 65 = .ok (.iconst 1, 1) := by decide +kernel
theorem dX12_fact_66 : decode cX12_fact 66 = .ok (.iadd, 1) := by decide +kernel
theorem dX12_fact_67 : decode cX12_fact 67 = .ok (.putfield 87, 3) := by decide +kernel
theorem dX12_fact_70 : decode cX12_fact 70 = .ok (.iconst 1, 1) := by decide +kernel
theorem dX12_fact_71 : decode cX12_fact 71 = .ok (.istore_n 1, 1) := by decide +kernel
theorem dX12_fact_72 : decode cX12_fact 72 = .ok (.goto (-70), 3) := by decide +kernel
theorem dX12_fact_75 : decode cX12_fact 75 = .ok (.aload_n 0, 1) := by decide +kernel
theorem dX12_fact_76 : decode cX12_fact 76 = .ok (.invokevirtual 182, 3) := by decide +kernel
theorem dX12_fact_79 : decode cX12_fact 79 = .ok (.ireturn, 1) := by decide +kernel
theorem dX12_isInside_0 : decode cX12_isInside 0 = .ok (.iconst 0, 1) := by decide +kernel
theorem dX12_isInside_1 : decode cX12_isInside 1 = .ok (.istore_n 1, 1) := by decide +kernel
theorem dX12_isInside_2 : decode cX12_isInside 2 = .ok (.iload_n 1, 1) := by decide +kernel
theorem dX12_isInside_3 : decode cX12_isInside 3 = .ok (.aload_n 0, 1) := by decide +kernel
theorem dX12_isInside_4 : decode cX12_isInside 4 = .ok (.getfield 146, 3) := by decide +kernel
theorem dX12_isInside_7 : decode cX12_isInside 7 = .ok (.if_icmp .ge 22, 3) := by decide +kernel
theorem dX12_isInside_10 : decode cX12_isInside 10 = .ok (.aload_n 0, 1) := by decide +kernel
theorem dX12_isInside_11 : decode cX12_isInside 11 = .ok (.getfield 35, 3) := by decide +kernel
theorem dX12_isInside_14 : decode cX12_isInside 14 = .ok (.iload_n 1, 1) := by decide +kernel
theorem dX12_isInside_15 : decode cX12_isInside 15 = .ok (.iaload, 1) := by decide +kernel
theorem dX12_isInside_16 : decode cX12_isInside 16 = .ok (.bipush 91, 2) := by decide +kernel
theorem dX12_isInside_18 : decode cX12_isInside 18 = .ok (.if_icmp .ne 5, 3) := by decide +kernel
theorem dX12_isInside_21 : decode cX12_isInside 21 = .ok (.iconst 1, 1) := by decide +kernel
theorem dX12_isInside_22 : decode cX12_isInside 22 = .ok (.ireturn, 1) := by decide +kernel
theorem dX12_isInside_23 : decode cX12_isInside 23 = .ok (.iinc 1 1, 3) := by decide +kernel
theorem dX12_isInside_26 : decode cX12_isInside 26 = .ok (.goto (-24), 3) := by decide +kernel
theorem dX12_isInside_29 : decode cX12_isInside 29 = .ok (.iconst 0, 1) := by decide +kernel
theorem dX12_isInside_30 : decode cX12_isInside 30 = .ok (.ireturn, 1) := by decide +kernel
set_option maxRecDepth 20000 in
theorem ggX12_closes_X12_settles : GoodIn wsX12_closes wsX12_settles := goodIn_r _ [8, 1, 9, 2, 10, 11, 7, 12, 13, 14, 15, 16, 17, 18, 19, 30, 31, 32, 33, 34, 35, 36, 37, 38, 39, 40, 41, 42, 43, 44, 45, 46, 47, 48, 49, 50, 51, 52, 53, 54, 55, 56, 57, 58, 59, 60, 61, 62, 63, 64, 65, 66] (by decide +kernel) (by decide +kernel)
set_option maxRecDepth 20000 in
theorem gX12_closes_X12_settles : GoodIn wsX12_closes (wsV RX12 185 RX12 yX12_settles wsX12_settles) := goodIn_app (goodIn_of _ (by decide +kernel)) ggX12_closes_X12_settles
set_option maxRecDepth 20000 in
theorem ggX12_closes_X12_see : GoodIn wsX12_closes wsX12_see := goodIn_r _ [23, 3, 24, 25, 30, 31, 32, 33, 34, 35, 36, 37, 38, 39, 40, 41, 42, 43, 44, 45, 46, 47, 48, 49, 50, 51, 52, 53, 54, 55, 56, 57, 58, 59, 60, 61, 62, 63, 64, 65, 66] (by decide +kernel) (by decide +kernel)
set_option maxRecDepth 20000 in
theorem gX12_closes_X12_see : GoodIn wsX12_closes (wsV RX12 90 RX12 yX12_see wsX12_see) := goodIn_app (goodIn_of _ (by decide +kernel)) ggX12_closes_X12_see
set_option maxRecDepth 20000 in
theorem ggX12_closes_X12_isInside : GoodIn wsX12_closes wsX12_isInside := goodIn_r _ [29, 1, 9, 30, 31, 32, 33, 34, 35, 36, 37, 38, 39, 40, 41, 42, 43, 44, 45, 46, 47, 48, 49, 50, 51, 52, 53, 54, 55, 56, 57, 58, 59, 60, 61, 62, 63, 64, 65, 66] (by decide +kernel) (by decide +kernel)
set_option maxRecDepth 20000 in
theorem gX12_closes_X12_isInside : GoodIn wsX12_closes (wsV RX12 188 RX12 yX12_isInside wsX12_isInside) := goodIn_app (goodIn_of _ (by decide +kernel)) ggX12_closes_X12_isInside
theorem dX12_closes_0 : decode cX12_closes 0 = .ok (.aload_n 0, 1) := by decide +kernel
theorem dX12_closes_1 : decode cX12_closes 1 = .ok (.iconst 3, 1) := by decide +kernel
theorem dX12_closes_2 : decode cX12_closes 2 = .ok (.invokevirtual 185, 3) := by decide +kernel
theorem dX12_closes_5 : decode cX12_closes 5 = .ok (.aload_n 0, 1) := by decide +kernel
theorem dX12_closes_6 : decode cX12_closes 6 = .ok (.invokevirtual 90, 3) := by decide +kernel
theorem dX12_closes_9 : decode cX12_closes 9 = .ok (.bipush 93, 2) := by decide +kernel
theorem dX12_closes_11 : decode cX12_closes 11 = .ok (.if_icmp .ne 53, 3) := by decide +kernel
theorem dX12_closes_14 : decode cX12_closes 14 = .ok (.aload_n 0, 1) := by decide +kernel
theorem dX12_closes_15 : decode cX12_closes 15 = .ok (.invokevirtual 188, 3) := by decide +kernel
theorem dX12_closes_18 : decode cX12_closes 18 = .ok (.ifCond .eq 46, 3) := by decide +kernel
theorem dX12_closes_21 : decode cX12_closes 21 = .ok (.aload_n 0, 1) := by decide +kernel
theorem dX12_closes_22 : decode cX12_closes 22 = .ok (.iconst 1, 1) := by decide +kernel
theorem dX12_closes_23 : decode cX12_closes 23 = .ok (.invokevirtual 185, 3) := by decide +kernel
theorem dX12_closes_26 : decode cX12_closes 26 = .ok (.aload_n 0, 1) := by decide +kernel
theorem dX12_closes_27 : decode cX12_closes 27 = .ok (.dup, 1) := by decide +kernel
theorem dX12_closes_28 : decode cX12_closes 28 = .ok (.getfield 146, 3) := by decide +kernel
theorem dX12_closes_31 : decode cX12_closes 31 = .ok (.iconst 1, 1) := by decide +kernel
theorem dX12_closes_32 : decode cX12_closes 32 = .ok (.isub, 1) := by decide +kernel
theorem dX12_closes_33 : decode cX12_closes 33 = .ok (.putfield 146, 3) := by decide +kernel
theorem dX12_closes_36 : decode cX12_closes 36 = .ok (.aload_n 0, 1) := by decide +kernel
theorem dX12_closes_37 : decode cX12_closes 37 = .ok (.dup, 1) := by decide +kernel
theorem dX12_closes_38 : decode cX12_closes 38 = .ok (.getfield 143, 3) := by decide +kernel
theorem dX12_closes_41 : decode cX12_closes 41 = .ok (.iconst 1, 1) := by decide +kernel
theorem dX12_closes_42 : decode cX12_closes 42 = .ok (.isub, 1) := by decide +kernel
theorem dX12_closes_43 : decode cX12_closes 43 = .ok (.putfield 143, 3) := by decide +kernel
theorem dX12_closes_46 : decode cX12_closes 46 = .ok (.aload_n 0, 1) := by decide +kernel
theorem dX12_closes_47 : decode cX12_closes 47 = .ok (.dup, 1) := by decide +kernel
theorem dX12_closes_48 : decode cX12_closes 48 = .ok (.getfield 87, 3) := by decide +kernel
theorem dX12_closes_51 : decode cX12_closes 51 = .ok (.iconst 1, 1) := by decide +kernel
theorem dX12_closes_52 : decode cX12_closes 52 = .ok (.iadd, 1) := by decide +kernel
theorem dX12_closes_53 : decode cX12_closes 53 = .ok (.putfield 87, 3) := by decide +kernel
theorem dX12_closes_56 : decode cX12_closes 56 = .ok (.aload_n 0, 1) := by decide +kernel
theorem dX12_closes_57 : decode cX12_closes 57 = .ok (.iconst 3, 1) := by decide +kernel
theorem dX12_closes_58 : decode cX12_closes 58 = .ok (.invokevirtual 185, 3) := by decide +kernel
theorem dX12_closes_61 : decode cX12_closes 61 = .ok (.goto (-56), 3) := by decide +kernel
theorem dX12_closes_64 : decode cX12_closes 64 = .ok (.return_, 1) := by decide +kernel
set_option maxRecDepth 20000 in
theorem ggX12_tested_X12_fact : GoodIn wsX12_tested wsX12_fact := goodIn_r _ [11, 12, 6, 13, 14, 15, 10, 16, 17, 18, 19, 20, 21, 22, 23, 24, 25, 26, 27, 28, 29, 30, 2, 5, 1, 31, 32, 33, 34, 35, 36, 37, 38, 39, 40, 41, 42, 43, 44, 45, 46, 47, 48, 49, 50, 51, 52, 53, 54, 55, 56, 57, 58, 59, 60, 61, 62, 63, 64, 65, 66, 67, 68, 69, 70, 71, 72, 73, 74, 75, 76, 77, 78, 79, 80, 81, 82, 83, 84, 85, 86, 87, 88, 89, 90, 91, 92, 93, 109, 110, 111, 112, 113, 114, 115, 116, 117, 118, 119, 120, 121, 122, 123, 124, 125, 126, 127, 128, 129, 130, 131, 132, 133, 134, 135, 136, 137, 138, 139, 140, 141, 142, 143, 144, 145] (by decide +kernel) (by decide +kernel)
set_option maxRecDepth 20000 in
theorem gX12_tested_X12_fact : GoodIn wsX12_tested (wsV RX12 191 RX12 yX12_fact wsX12_fact) := goodIn_app (goodIn_of _ (by decide +kernel)) ggX12_tested_X12_fact
set_option maxRecDepth 20000 in
theorem ggX12_tested_X12_closes : GoodIn wsX12_tested wsX12_closes := goodIn_r _ [97, 1, 2, 6, 98, 99, 100, 10, 101, 5, 102, 103, 104, 74, 75, 76, 77, 78, 79, 80, 13, 14, 15, 16, 17, 18, 105, 106, 107, 108, 109, 110, 111, 112, 113, 114, 115, 116, 117, 118, 119, 120, 121, 122, 123, 124, 125, 126, 127, 128, 129, 130, 131, 132, 133, 134, 135, 136, 137, 138, 139, 140, 141, 142, 143, 144, 145] (by decide +kernel) (by decide +kernel)
set_option maxRecDepth 20000 in
theorem gX12_tested_X12_closes : GoodIn wsX12_tested (wsV RX12 194 RX12 yX12_closes wsX12_closes) := goodIn_app (goodIn_of _ (by decide +kernel)) ggX12_tested_X12_closes
set_option maxRecDepth 20000 in
theorem ggX12_tested_X12_isWord : GoodIn wsX12_tested wsX12_isWord := goodIn_r _ [22, 6, 18, 13, 14, 15, 10, 16, 17, 23, 24, 25, 26, 109, 110, 111, 112, 113, 114, 115, 116, 117, 118, 119, 120, 121, 122, 123, 124, 125, 126, 127, 128, 129, 130, 131, 132, 133, 134, 135, 136, 137, 138, 139, 140, 141, 142, 143, 144, 145] (by decide +kernel) (by decide +kernel)
set_option maxRecDepth 20000 in
theorem gX12_tested_X12_isWord : GoodIn wsX12_tested (wsV RX12 98 RX12 yX12_isWord wsX12_isWord) := goodIn_app (goodIn_of _ (by decide +kernel)) ggX12_tested_X12_isWord
set_option maxRecDepth 20000 in
theorem ggX12_tested_X12_passWord : GoodIn wsX12_tested wsX12_passWord := goodIn_r _ [39, 6, 23, 24, 25, 10, 26, 17, 18, 109, 110, 111, 112, 113, 114, 115, 116, 117, 118, 119, 120, 121, 122, 123, 124, 125, 126, 127, 128, 129, 130, 131, 132, 133, 134, 135, 136, 137, 138, 139, 140, 141, 142, 143, 144, 145] (by decide +kernel) (by decide +kernel)
set_option maxRecDepth 20000 in
theorem gX12_tested_X12_passWord : GoodIn wsX12_tested (wsV RX12 102 RX12 yX12_passWord wsX12_passWord) := goodIn_app (goodIn_of _ (by decide +kernel)) ggX12_tested_X12_passWord
set_option maxRecDepth 20000 in
theorem ggX12_tested_X12_strength : GoodIn wsX12_tested wsX12_strength := goodIn_r _ [104] (by decide +kernel) (by decide +kernel)
set_option maxRecDepth 20000 in
theorem gX12_tested_X12_strength : GoodIn wsX12_tested (va_wsS RX12 149 yX12_strength wsX12_strength) := goodIn_app (goodIn_of _ (by decide +kernel)) ggX12_tested_X12_strength
set_option maxRecDepth 20000 in
theorem ggX12_tested_X12_settles : GoodIn wsX12_tested wsX12_settles := goodIn_r _ [101, 1, 5, 2, 102, 103, 10, 104, 74, 75, 76, 77, 78, 79, 80, 109, 110, 111, 112, 113, 114, 115, 116, 117, 118, 119, 120, 121, 122, 123, 124, 125, 126, 127, 128, 129, 130, 131, 132, 133, 134, 135, 136, 137, 138, 139, 140, 141, 142, 143, 144, 145] (by decide +kernel) (by decide +kernel)
set_option maxRecDepth 20000 in
theorem gX12_tested_X12_settles : GoodIn wsX12_tested (wsV RX12 185 RX12 yX12_settles wsX12_settles) := goodIn_app (goodIn_of _ (by decide +kernel)) ggX12_tested_X12_settles
set_option maxRecDepth 20000 in
theorem ggX12_tested_X12_isInside : GoodIn wsX12_tested wsX12_isInside := goodIn_r _ [108, 1, 5, 109, 110, 111, 112, 113, 114, 115, 116, 117, 118, 119, 120, 121, 122, 123, 124, 125, 126, 127, 128, 129, 130, 131, 132, 133, 134, 135, 136, 137, 138, 139, 140, 141, 142, 143, 144, 145] (by decide +kernel) (by decide +kernel)
set_option maxRecDepth 20000 in
theorem gX12_tested_X12_isInside : GoodIn wsX12_tested (wsV RX12 188 RX12 yX12_isInside wsX12_isInside) := goodIn_app (goodIn_of _ (by decide +kernel)) ggX12_tested_X12_isInside
set_option maxRecDepth 20000 in
theorem ggX12_tested_X12_see : GoodIn wsX12_tested wsX12_see := goodIn_r _ [16, 6, 17, 18, 109, 110, 111, 112, 113, 114, 115, 116, 117, 118, 119, 120, 121, 122, 123, 124, 125, 126, 127, 128, 129, 130, 131, 132, 133, 134, 135, 136, 137, 138, 139, 140, 141, 142, 143, 144, 145] (by decide +kernel) (by decide +kernel)
set_option maxRecDepth 20000 in
theorem gX12_tested_X12_see : GoodIn wsX12_tested (wsV RX12 90 RX12 yX12_see wsX12_see) := goodIn_app (goodIn_of _ (by decide +kernel)) ggX12_tested_X12_see
set_option maxRecDepth 20000 in
theorem ggX12_tested_X12_fails : GoodIn wsX12_tested wsX12_fails := goodIn_r _ [34, 35, 109, 110, 111, 112, 113, 114, 115, 116, 117, 118, 119, 120, 121, 122, 123, 124, 125, 126, 127, 128, 129, 130, 131, 132, 133, 134, 135, 136, 137, 138, 139, 140, 141, 142, 143, 144, 145] (by decide +kernel) (by decide +kernel)
set_option maxRecDepth 20000 in
theorem gX12_tested_X12_fails : GoodIn wsX12_tested (wsV RX12 108 RX12 yX12_fails wsX12_fails) := goodIn_app (goodIn_of _ (by decide +kernel)) ggX12_tested_X12_fails
theorem dX12_tested_0 : decode cX12_tested 0 = .ok (.aload_n 0, 1) := by decide +kernel
theorem dX12_tested_1 : decode cX12_tested 1 = .ok (.iconst 0, 1) := by decide +kernel
theorem dX12_tested_2 : decode cX12_tested 2 = .ok (.putfield 146, 3) := by decide +kernel
theorem dX12_tested_5 : decode cX12_tested 5 = .ok (.aload_n 0, 1) := by decide +kernel
theorem dX12_tested_6 : decode cX12_tested 6 = .ok (.iconst 0, 1) := by decide +kernel
theorem dX12_tested_7 : decode cX12_tested 7 = .ok (.putfield 143, 3) := by decide +kernel
theorem dX12_tested_10 : decode cX12_tested 10 = .ok (.iconst 1, 1) := by decide +kernel
theorem dX12_tested_11 : decode cX12_tested 11 = .ok (.istore_n 1, 1) := by decide +kernel
theorem dX12_tested_12 : decode cX12_tested 12 = .ok (.iload_n 1, 1) := by decide +kernel
theorem dX12_tested_13 : decode cX12_tested 13 = .ok (.ifCond .eq 99, 3) := by decide +kernel
theorem dX12_tested_16 : decode cX12_tested 16 = .ok (.aload_n 0, 1) := by decide +kernel
theorem dX12_tested_17 : decode cX12_tested 17 = .ok (.invokevirtual 191, 3) := by decide +kernel
theorem dX12_tested_20 : decode cX12_tested 20 = .ok (.ifCond .ne 5, 3) := by decide +kernel
theorem dX12_tested_23 : decode cX12_tested 23 = .ok (.iconst 0, 1) := by decide +kernel
theorem dX12_tested_24 : decode cX12_tested 24 = .ok (.ireturn, 1) := by decide +kernel
theorem dX12_tested_25 : decode cX12_tested 25 = .ok (.aload_n 0, 1) := by decide +kernel
theorem dX12_tested_26 : decode cX12_tested 26 = .ok (.invokevirtual 194, 3) := by decide +kernel
theorem dX12_tested_29 : decode cX12_tested 29 = .ok (.aload_n 0, 1) := by decide +kernel
theorem dX12_tested_30 : decode cX12_tested 30 = .ok (.ldc2_w 197, 3) := by decide +kernel
theorem dX12_tested_33 : decode cX12_tested 33 = .ok (.invokevirtual 98, 3) := by decide +kernel
theorem dX12_tested_36 : decode cX12_tested 36 = .ok (.ifCond .ne 13, 3) := by decide +kernel
theorem dX12_tested_39 : decode cX12_tested 39 = .ok (.aload_n 0, 1) := by decide +kernel
theorem dX12_tested_40 : decode cX12_tested 40 = .ok (.ldc2_w 199, 3) := by decide +kernel
theorem dX12_tested_43 : decode cX12_tested 43 = .ok (.invokevirtual 98, 3) := by decide +kernel
theorem dX12_tested_46 : decode cX12_tested 46 = .ok (.ifCond .eq 7, 3) := by decide +kernel
theorem dX12_tested_49 : decode cX12_tested 49 = .ok (.iconst 1, 1) := by decide +kernel
theorem dX12_tested_50 : decode cX12_tested 50 = .ok (.goto 4, 3) := by decide +kernel
theorem dX12_tested_53 : decode cX12_tested 53 = .ok (.iconst 0, 1) := by decide +kernel
theorem dX12_tested_54 : decode cX12_tested 54 = .ok (.istore_n 1, 1) := by decide +kernel
theorem dX12_tested_55 : decode cX12_tested 55 = .ok (.iload_n 1, 1) := by decide +kernel
theorem dX12_tested_56 : decode cX12_tested 56 = .ok (.ifCond .eq (-44), 3) := by decide +kernel
theorem dX12_tested_59 : decode cX12_tested 59 = .ok (.aload_n 0, 1) := by decide +kernel
theorem dX12_tested_60 : decode cX12_tested 60 = .ok (.ldc2_w 197, 3) := by decide +kernel
theorem dX12_tested_63 : decode cX12_tested 63 = .ok (.invokevirtual 98, 3) := by decide +kernel
theorem dX12_tested_66 : decode cX12_tested 66 = .ok (.ifCond .eq 8, 3) := by decide +kernel
theorem dX12_tested_69 : decode cX12_tested 69 = .ok (.bipush 12, 2) := by decide +kernel
theorem dX12_tested_71 : decode cX12_tested 71 = .ok (.goto 5, 3) := by decide +kernel
theorem dX12_tested_74 : decode cX12_tested 74 = .ok (.bipush 13, 2) := by decide +kernel
theorem dX12_tested_76 : decode cX12_tested 76 = .ok (.istore_n 2, 1) := by decide +kernel
theorem dX12_tested_77 : decode cX12_tested 77 = .ok (.aload_n 0, 1) := by decide +kernel
theorem dX12_tested_78 : decode cX12_tested 78 = .ok (.invokevirtual 102, 3) := by decide +kernel
theorem dX12_tested_81 : decode cX12_tested 81 = .ok (.aload_n 0, 1) := by decide +kernel
theorem dX12_tested_82 : decode cX12_tested 82 = .ok (.iload_n 2, 1) := by decide +kernel
theorem dX12_tested_83 : decode cX12_tested 83 = .ok (.invokestatic 149, 3) := by decide +kernel
theorem dX12_tested_86 : decode cX12_tested 86 = .ok (.invokevirtual 185, 3) := by decide +kernel
theorem dX12_tested_89 : decode cX12_tested 89 = .ok (.aload_n 0, 1) := by decide +kernel
theorem dX12_tested_90 : decode cX12_tested 90 = .ok (.getfield 35, 3) := by decide +kernel
theorem dX12_tested_93 : decode cX12_tested 93 = .ok (.aload_n 0, 1) := by decide +kernel
theorem dX12_tested_94 : decode cX12_tested 94 = .ok (.getfield 146, 3) := by decide +kernel
theorem dX12_tested_97 : decode cX12_tested 97 = .ok (.iload_n 2, 1) := by decide +kernel
theorem dX12_tested_98 : decode cX12_tested 98 = .ok (.iastore, 1) := by decide +kernel
theorem dX12_tested_99 : decode cX12_tested 99 = .ok (.aload_n 0, 1) := by decide +kernel
theorem dX12_tested_100 : decode cX12_tested 100 = .ok (.dup, 1) := by decide +kernel
theorem dX12_tested_101 : decode cX12_tested 101 = .ok (.getfield 146, 3) := by decide +kernel
theorem dX12_tested_104 : decode cX12_tested 104 = .ok (.iconst 1, 1) := by decide +kernel
theorem dX12_tested_105 : decode cX12_tested 105 = .ok (.iadd, 1) := by decide +kernel
theorem dX12_tested_106 : decode cX12_tested 106 = .ok (.putfield 146, 3) := by decide +kernel
theorem dX12_tested_109 : decode cX12_tested 109 = .ok (.goto (-97), 3) := by decide +kernel
theorem dX12_tested_112 : decode cX12_tested 112 = .ok (.aload_n 0, 1) := by decide +kernel
theorem dX12_tested_113 : decode cX12_tested 113 = .ok (.invokevirtual 188, 3) := by decide +kernel
theorem dX12_tested_116 : decode cX12_tested 116 = .ok (.ifCond .eq 18, 3) := by decide +kernel
theorem dX12_tested_119 : decode cX12_tested 119 = .ok (.aload_n 0, 1) := by decide +kernel
theorem dX12_tested_120 : decode cX12_tested 120 = .ok (.invokevirtual 90, 3) := by decide +kernel
theorem dX12_tested_123 : decode cX12_tested 123 = .ok (.pop, 1) := by decide +kernel
theorem dX12_tested_124 : decode cX12_tested 124 = .ok (.aload_n 0, 1) := by decide +kernel
theorem dX12_tested_125 : decode cX12_tested 125 = .ok (.iconst 0, 1) := by decide +kernel
theorem dX12_tested_126 : decode cX12_tested 126 = .ok (.aload_n 0, 1) := by decide +kernel
theorem dX12_tested_127 : decode cX12_tested 127 = .ok (.getfield 87, 3) := by decide +kernel
theorem dX12_tested_130 : decode cX12_tested 130 = .ok (.invokevirtual 108, 3) := by decide +kernel
theorem dX12_tested_133 : decode cX12_tested 133 = .ok (.ireturn, 1) := by decide +kernel
theorem dX12_tested_134 : decode cX12_tested 134 = .ok (.aload_n 0, 1) := by decide +kernel
theorem dX12_tested_135 : decode cX12_tested 135 = .ok (.iconst 1, 1) := by decide +kernel
theorem dX12_tested_136 : decode cX12_tested 136 = .ok (.invokevirtual 185, 3) := by decide +kernel
theorem dX12_tested_139 : decode cX12_tested 139 = .ok (.iconst 1, 1) := by decide +kernel
theorem dX12_tested_140 : decode cX12_tested 140 = .ok (.ireturn, 1) := by decide +kernel
set_option maxRecDepth 20000 in
theorem ggX12_isDoingHere_X12_passWord : GoodIn wsX12_isDoingHere wsX12_passWord := goodIn_r _ [11, 12, 13, 14, 15, 10, 16, 17, 18, 120, 121, 122, 123, 124, 125, 126, 127, 128, 129, 130, 131, 132, 133, 134, 135, 136, 137, 138, 139, 140, 141, 142, 143, 144, 145, 146, 147, 148, 149, 150, 151, 152, 153, 154, 155, 156] (by decide +kernel) (by decide +kernel)
set_option maxRecDepth 20000 in
theorem gX12_isDoingHere_X12_passWord : GoodIn wsX12_isDoingHere (wsV RX12 102 RX12 yX12_passWord wsX12_passWord) := goodIn_app (goodIn_of _ (by decide +kernel)) ggX12_isDoingHere_X12_passWord
set_option maxRecDepth 20000 in
theorem ggX12_isDoingHere_X12_numberHere : GoodIn wsX12_isDoingHere wsX12_numberHere := goodIn_r _ [22, 12, 18, 4, 23, 24, 25, 10, 26, 17, 27, 28, 29, 30, 31, 32, 33, 34, 35, 36, 37, 38, 120, 121, 122, 123, 124, 125, 126, 127, 128, 129, 130, 131, 132, 133, 134, 135, 136, 137, 138, 139, 140, 141, 142, 143, 144, 145, 146, 147, 148, 149, 150, 151, 152, 153, 154, 155, 156] (by decide +kernel) (by decide +kernel)
set_option maxRecDepth 20000 in
theorem gX12_isDoingHere_X12_numberHere : GoodIn wsX12_isDoingHere (wsV RX12 158 RX12 yX12_numberHere wsX12_numberHere) := goodIn_app (goodIn_of _ (by decide +kernel)) ggX12_isDoingHere_X12_numberHere
set_option maxRecDepth 20000 in
theorem ggX12_isDoingHere_X12_takesWord : GoodIn wsX12_isDoingHere wsX12_takesWord := goodIn_r _ [42, 43, 44, 45, 10, 46, 12, 18, 23, 24, 25, 26, 17, 13, 14, 15, 16, 7, 8, 9, 11, 120, 121, 122, 123, 124, 125, 126, 127, 128, 129, 130, 131, 132, 133, 134, 135, 136, 137, 138, 139, 140, 141, 142, 143, 144, 145, 146, 147, 148, 149, 150, 151, 152, 153, 154, 155, 156] (by decide +kernel) (by decide +kernel)
set_option maxRecDepth 20000 in
theorem gX12_isDoingHere_X12_takesWord : GoodIn wsX12_isDoingHere (wsV RX12 203 RX12 yX12_takesWord wsX12_takesWord) := goodIn_app (goodIn_of _ (by decide +kernel)) ggX12_isDoingHere_X12_takesWord
set_option maxRecDepth 20000 in
theorem ggX12_isDoingHere_X12_tested : GoodIn wsX12_isDoingHere wsX12_tested := goodIn_r _ [50, 51, 52, 53, 54, 55, 12, 56, 57, 58, 10, 59, 60, 23, 24, 25, 26, 17, 18, 43, 44, 45, 46, 13, 14, 15, 16, 61, 62, 63, 64, 31, 32, 33, 34, 35, 7, 8, 9, 11, 65, 66, 67, 68, 69, 70, 71, 72, 73, 74, 75, 76, 77, 78, 79, 80, 81, 4, 27, 28, 29, 30, 19, 20, 21, 22, 36, 37, 38, 82, 83, 84, 85, 86, 87, 88, 89, 90, 91, 1, 6, 92, 93, 94, 95, 96, 97, 98, 99, 100, 101, 102, 103, 104, 105, 106, 107, 108, 109, 110, 111, 112, 113, 114, 115, 116, 117, 118, 119, 120, 121, 122, 123, 124, 125, 126, 127, 128, 129, 130, 131, 132, 133, 134, 135, 136, 137, 138, 139, 140, 141, 142, 143, 144, 145, 146, 147, 148, 149, 150, 151, 152, 153, 154, 155, 156] (by decide +kernel) (by decide +kernel)
set_option maxRecDepth 20000 in
theorem gX12_isDoingHere_X12_tested : GoodIn wsX12_isDoingHere (wsV RX12 206 RX12 yX12_tested wsX12_tested) := goodIn_app (goodIn_of _ (by decide +kernel)) ggX12_isDoingHere_X12_tested
theorem dX12_isDoingHere_0 : decode cX12_isDoingHere 0 = .ok (.aload_n 0, 1) := by decide +kernel
theorem dX12_isDoingHere_1 : decode cX12_isDoingHere 1 = .ok (.invokevirtual 102, 3) := by decide +kernel
theorem dX12_isDoingHere_4 : decode cX12_isDoingHere 4 = .ok (.bipush 48, 2) := by decide +kernel
theorem dX12_isDoingHere_6 : decode cX12_isDoingHere 6 = .ok (.aload_n 0, 1) := by decide +kernel
theorem dX12_isDoingHere_7 : decode cX12_isDoingHere 7 = .ok (.getfield 137, 3) := by decide +kernel
theorem dX12_isDoingHere_10 : decode cX12_isDoingHere 10 = .ok (.imul, 1) := by decide +kernel
theorem dX12_isDoingHere_11 : decode cX12_isDoingHere 11 = .ok (.iconst 4, 1) := by decide +kernel
theorem dX12_isDoingHere_12 : decode cX12_isDoingHere 12 = .ok (.aload_n 0, 1) := by decide +kernel
theorem dX12_isDoingHere_13 : decode cX12_isDoingHere 13 = .ok (.getfield 23, 3) := by decide +kernel
theorem dX12_isDoingHere_16 : decode cX12_isDoingHere 16 = .ok (.aload_n 0, 1) := by decide +kernel
theorem dX12_isDoingHere_17 : decode cX12_isDoingHere 17 = .ok (.getfield 137, 3) := by decide +kernel
theorem dX12_isDoingHere_20 : decode cX12_isDoingHere 20 = .ok (.iaload, 1) := by decide +kernel
theorem dX12_isDoingHere_21 : decode cX12_isDoingHere 21 = .ok (.imul, 1) := by decide +kernel
theorem dX12_isDoingHere_22 : decode cX12_isDoingHere 22 = .ok (.iadd, 1) := by decide +kernel
theorem dX12_isDoingHere_23 : decode cX12_isDoingHere 23 = .ok (.istore_n 2, 1) := by decide +kernel
theorem dX12_isDoingHere_24 : decode cX12_isDoingHere 24 = .ok (.aload_n 0, 1) := by decide +kernel
theorem dX12_isDoingHere_25 : decode cX12_isDoingHere 25 = .ok (.getfield 20, 3) := by decide +kernel
theorem dX12_isDoingHere_28 : decode cX12_isDoingHere 28 = .ok (.iload_n 2, 1) := by decide +kernel
theorem dX12_isDoingHere_29 : decode cX12_isDoingHere 29 = .ok (.iload_n 1, 1) := by decide +kernel
theorem dX12_isDoingHere_30 : decode cX12_isDoingHere 30 = .ok (.iastore, 1) := by decide +kernel
theorem dX12_isDoingHere_31 : decode cX12_isDoingHere 31 = .ok (.aload_n 0, 1) := by decide +kernel
theorem dX12_isDoingHere_32 : decode cX12_isDoingHere 32 = .ok (.getfield 20, 3) := by decide +kernel
theorem dX12_isDoingHere_35 : decode cX12_isDoingHere 35 = .ok (.iload_n 2, 1) := by decide +kernel
theorem dX12_isDoingHere_36 : decode cX12_isDoingHere 36 = .ok (.iconst 1, 1) := by decide +kernel
theorem dX12_isDoingHere_37 : decode cX12_isDoingHere 37 = .ok (.iadd, 1) := by decide +kernel
theorem dX12_isDoingHere_38 : decode cX12_isDoingHere 38 = .ok (.iconst (-1), 1) := by decide +kernel
theorem dX12_isDoingHere_39 : decode cX12_isDoingHere 39 = .ok (.iastore, 1) := by decide +kernel
theorem dX12_isDoingHere_40 : decode cX12_isDoingHere 40 = .ok (.iload_n 1, 1) := by decide +kernel
theorem dX12_isDoingHere_41 : decode cX12_isDoingHere 41 = .ok (.ifCond .ne 26, 3) := by decide +kernel
theorem dX12_isDoingHere_44 : decode cX12_isDoingHere 44 = .ok (.aload_n 0, 1) := by decide +kernel
theorem dX12_isDoingHere_45 : decode cX12_isDoingHere 45 = .ok (.iconst 0, 1) := by decide +kernel
theorem dX12_isDoingHere_46 : decode cX12_isDoingHere 46 = .ok (.iconst 3, 1) := by decide +kernel
theorem dX12_isDoingHere_47 : decode cX12_isDoingHere 47 = .ok (.invokevirtual 158, 3) := by decide +kernel
theorem dX12_isDoingHere_50 : decode cX12_isDoingHere 50 = .ok (.ifCond .ne 5, 3) := by decide +kernel
theorem dX12_isDoingHere_53 : decode cX12_isDoingHere 53 = .ok (.iconst 0, 1) := by decide +kernel
theorem dX12_isDoingHere_54 : decode cX12_isDoingHere 54 = .ok (.ireturn, 1) := by decide +kernel
theorem dX12_isDoingHere_55 : decode cX12_isDoingHere 55 = .ok (.aload_n 0, 1) := by decide +kernel
theorem dX12_isDoingHere_56 : decode cX12_isDoingHere 56 = .ok (.getfield 20, 3) := by decide +kernel
theorem dX12_isDoingHere_59 : decode cX12_isDoingHere 59 = .ok (.iload_n 2, 1) := by decide +kernel
theorem dX12_isDoingHere_60 : decode cX12_isDoingHere 60 = .ok (.iconst 1, 1) := by decide +kernel
theorem dX12_isDoingHere_61 : decode cX12_isDoingHere 61 = .ok (.iadd, 1) := by decide +kernel
theorem dX12_isDoingHere_62 : decode cX12_isDoingHere 62 = .ok (.aload_n 0, 1) := by decide +kernel
theorem dX12_isDoingHere_63 : decode cX12_isDoingHere 63 = .ok (.getfield 112, 3) := by decide +kernel
theorem dX12_isDoingHere_66 : decode cX12_isDoingHere 66 = .ok (.iastore, 1) := by decide +kernel
theorem dX12_isDoingHere_67 : decode cX12_isDoingHere 67 = .ok (.aload_n 0, 1) := by decide +kernel
theorem dX12_isDoingHere_68 : decode cX12_isDoingHere 68 = .ok (.getfield 20, 3) := by decide +kernel
theorem dX12_isDoingHere_71 : decode cX12_isDoingHere 71 = .ok (.iload_n 2, 1) := by decide +kernel
theorem dX12_isDoingHere_72 : decode cX12_isDoingHere 72 = .ok (.iconst 2, 1) := by decide +kernel
theorem dX12_isDoingHere_73 : decode cX12_isDoingHere 73 = .ok (.iadd, 1) := by decide +kernel
theorem dX12_isDoingHere_74 : decode cX12_isDoingHere 74 = .ok (.iconst (-1), 1) := by decide +kernel
theorem dX12_isDoingHere_75 : decode cX12_isDoingHere 75 = .ok (.iastore, 1) := by decide +kernel
theorem dX12_isDoingHere_76 : decode cX12_isDoingHere 76 = .ok (.aload_n 0, 1) := by decide +kernel
theorem dX12_isDoingHere_77 : decode cX12_isDoingHere 77 = .ok (.ldc2_w 201, 3) := by decide +kernel
theorem dX12_isDoingHere_80 : decode cX12_isDoingHere 80 = .ok (.invokevirtual 203, 3) := by decide +kernel
theorem dX12_isDoingHere_83 : decode cX12_isDoingHere 83 = .ok (.ifCond .eq 29, 3) := by decide +kernel
theorem dX12_isDoingHere_86 : decode cX12_isDoingHere 86 = .ok (.aload_n 0, 1) := by decide +kernel
theorem dX12_isDoingHere_87 : decode cX12_isDoingHere 87 = .ok (.getfield 20, 3) := by decide +kernel
theorem dX12_isDoingHere_90 : decode cX12_isDoingHere 90 = .ok (.iload_n 2, 1) := by decide +kernel
theorem dX12_isDoingHere_91 : decode cX12_isDoingHere 91 = .ok (.iconst 2, 1) := by decide +kernel
theorem dX12_isDoingHere_92 : decode cX12_isDoingHere 92 = .ok (.iadd, 1) := by decide +kernel
theorem dX12_isDoingHere_93 : decode cX12_isDoingHere 93 = .ok (.aload_n 0, 1) := by decide +kernel
theorem dX12_isDoingHere_94 : decode cX12_isDoingHere 94 = .ok (.getfield 17, 3) := by decide +kernel
theorem dX12_isDoingHere_97 : decode cX12_isDoingHere 97 = .ok (.aload_n 0, 1) := by decide +kernel
theorem dX12_isDoingHere_98 : decode cX12_isDoingHere 98 = .ok (.getfield 137, 3) := by decide +kernel
theorem dX12_isDoingHere_101 : decode cX12_isDoingHere 101 = .ok (.iaload, 1) := by decide +kernel
theorem dX12_isDoingHere_102 : decode cX12_isDoingHere 102 = .ok (.iastore, 1) := by decide +kernel
theorem dX12_isDoingHere_103 : decode cX12_isDoingHere 103 = .ok (.aload_n 0, 1) := by decide +kernel
theorem dX12_isDoingHere_104 : decode cX12_isDoingHere 104 = .ok (.invokevirtual 206, 3) := by decide +kernel
theorem dX12_isDoingHere_107 : decode cX12_isDoingHere 107 = .ok (.ifCond .ne 5, 3) := by decide +kernel
theorem dX12_isDoingHere_110 : decode cX12_isDoingHere 110 = .ok (.iconst 0, 1) := by decide +kernel
theorem dX12_isDoingHere_111 : decode cX12_isDoingHere 111 = .ok (.ireturn, 1) := by decide +kernel
theorem dX12_isDoingHere_112 : decode cX12_isDoingHere 112 = .ok (.aload_n 0, 1) := by decide +kernel
theorem dX12_isDoingHere_113 : decode cX12_isDoingHere 113 = .ok (.getfield 20, 3) := by decide +kernel
theorem dX12_isDoingHere_116 : decode cX12_isDoingHere 116 = .ok (.iload_n 2, 1) := by decide +kernel
theorem dX12_isDoingHere_117 : decode cX12_isDoingHere 117 = .ok (.iconst 3, 1) := by decide +kernel
theorem dX12_isDoingHere_118 : decode cX12_isDoingHere 118 = .ok (.iadd, 1) := by decide +kernel
theorem dX12_isDoingHere_119 : decode cX12_isDoingHere 119 = .ok (.aload_n 0, 1) := by decide +kernel
theorem dX12_isDoingHere_120 : decode cX12_isDoingHere 120 = .ok (.getfield 17, 3) := by decide +kernel
theorem dX12_isDoingHere_123 : decode cX12_isDoingHere 123 = .ok (.aload_n 0, 1) := by decide +kernel
theorem dX12_isDoingHere_124 : decode cX12_isDoingHere 124 = .ok (.getfield 137, 3) := by decide +kernel
theorem dX12_isDoingHere_127 : decode cX12_isDoingHere 127 = .ok (.iaload, 1) := by decide +kernel
theorem dX12_isDoingHere_128 : decode cX12_isDoingHere 128 = .ok (.iastore, 1) := by decide +kernel
theorem dX12_isDoingHere_129 : decode cX12_isDoingHere 129 = .ok (.aload_n 0, 1) := by decide +kernel
theorem dX12_isDoingHere_130 : decode cX12_isDoingHere 130 = .ok (.getfield 23, 3) := by decide +kernel
theorem dX12_isDoingHere_133 : decode cX12_isDoingHere 133 = .ok (.aload_n 0, 1) := by decide +kernel
theorem dX12_isDoingHere_134 : decode cX12_isDoingHere 134 = .ok (.getfield 137, 3) := by decide +kernel
theorem dX12_isDoingHere_137 : decode cX12_isDoingHere 137 = .ok (.dup2, 1) := by decide +kernel
theorem dX12_isDoingHere_138 : decode cX12_isDoingHere 138 = .ok (.iaload, 1) := by decide +kernel
theorem dX12_isDoingHere_139 : decode cX12_isDoingHere 139 = .ok (.iconst 1, 1) := by decide +kernel
theorem dX12_isDoingHere_140 : decode cX12_isDoingHere 140 = .ok (.iadd, 1) := by decide +kernel
theorem dX12_isDoingHere_141 : decode cX12_isDoingHere 141 = .ok (.iastore, 1) := by decide +kernel
theorem dX12_isDoingHere_142 : decode cX12_isDoingHere 142 = .ok (.iconst 1, 1) := by decide +kernel
theorem dX12_isDoingHere_143 : decode cX12_isDoingHere 143 = .ok (.ireturn, 1) := by decide +kernel
set_option maxRecDepth 20000 in
theorem ggX12_isTuneHere_X12_fails : GoodIn wsX12_isTuneHere wsX12_fails := goodIn_r _ [8, 9, 36, 37, 38, 39, 40, 41, 42, 43, 44, 45, 46, 47, 48, 49, 50, 51, 52, 53, 54, 55, 56, 57, 58, 59, 60, 61, 62, 63, 64, 65, 66, 67, 68, 69, 70, 71, 72] (by decide +kernel) (by decide +kernel)
set_option maxRecDepth 20000 in
theorem gX12_isTuneHere_X12_fails : GoodIn wsX12_isTuneHere (wsV RX12 108 RX12 yX12_fails wsX12_fails) := goodIn_app (goodIn_of _ (by decide +kernel)) ggX12_isTuneHere_X12_fails
set_option maxRecDepth 20000 in
theorem ggX12_isTuneHere_X12_passWord : GoodIn wsX12_isTuneHere wsX12_passWord := goodIn_r _ [13, 14, 15, 16, 17, 7, 18, 19, 20, 36, 37, 38, 39, 40, 41, 42, 43, 44, 45, 46, 47, 48, 49, 50, 51, 52, 53, 54, 55, 56, 57, 58, 59, 60, 61, 62, 63, 64, 65, 66, 67, 68, 69, 70, 71, 72] (by decide +kernel) (by decide +kernel)
set_option maxRecDepth 20000 in
theorem gX12_isTuneHere_X12_passWord : GoodIn wsX12_isTuneHere (wsV RX12 102 RX12 yX12_passWord wsX12_passWord) := goodIn_app (goodIn_of _ (by decide +kernel)) ggX12_isTuneHere_X12_passWord
set_option maxRecDepth 20000 in
theorem ggX12_isTuneHere_X12_numberHere : GoodIn wsX12_isTuneHere wsX12_numberHere := goodIn_r _ [24, 14, 20, 3, 25, 26, 27, 7, 28, 19, 29, 30, 31, 32, 4, 5, 6, 8, 9, 33, 34, 35, 36, 37, 38, 39, 40, 41, 42, 43, 44, 45, 46, 47, 48, 49, 50, 51, 52, 53, 54, 55, 56, 57, 58, 59, 60, 61, 62, 63, 64, 65, 66, 67, 68, 69, 70, 71, 72] (by decide +kernel) (by decide +kernel)
set_option maxRecDepth 20000 in
theorem gX12_isTuneHere_X12_numberHere : GoodIn wsX12_isTuneHere (wsV RX12 158 RX12 yX12_numberHere wsX12_numberHere) := goodIn_app (goodIn_of _ (by decide +kernel)) ggX12_isTuneHere_X12_numberHere
theorem dX12_isTuneHere_0 : decode cX12_isTuneHere 0 = .ok (.aload_n 0, 1) := by decide +kernel
theorem dX12_isTuneHere_1 : decode cX12_isTuneHere 1 = .ok (.getfield 209, 3) := by decide +kernel
theorem dX12_isTuneHere_4 : decode cX12_isTuneHere 4 = .ok (.iconst 4, 1) := by decide +kernel
theorem dX12_isTuneHere_5 : decode cX12_isTuneHere 5 = .ok (.if_icmp .ne 10, 3) := by decide +kernel
theorem dX12_isTuneHere_8 : decode cX12_isTuneHere 8 = .ok (.aload_n 0, 1) := by decide +kernel
theorem dX12_isTuneHere_9 : decode cX12_isTuneHere 9 = .ok (.iconst 4, 1) := by decide +kernel
theorem dX12_isTuneHere_10 : decode cX12_isTuneHere 10 = .ok (.iload_n 1, 1) := by decide +kernel
theorem dX12_isTuneHere_11 : decode cX12_isTuneHere 11 = .ok (.invokevirtual 108, 3) := by decide +kernel
theorem dX12_isTuneHere_14 : decode cX12_isTuneHere 14 = .ok (.ireturn, 1) := by decide +kernel
theorem dX12_isTuneHere_15 : decode cX12_isTuneHere 15 = .ok (.aload_n 0, 1) := by decide +kernel
theorem dX12_isTuneHere_16 : decode cX12_isTuneHere 16 = .ok (.invokevirtual 102, 3) := by decide +kernel
theorem dX12_isTuneHere_19 : decode cX12_isTuneHere 19 = .ok (.aload_n 0, 1) := by decide +kernel
theorem dX12_isTuneHere_20 : decode cX12_isTuneHere 20 = .ok (.iconst 1, 1) := by decide +kernel
theorem dX12_isTuneHere_21 : decode cX12_isTuneHere 21 = .ok (.bipush 9, 2) := by decide +kernel
theorem dX12_isTuneHere_23 : decode cX12_isTuneHere 23 = .ok (.invokevirtual 158, 3) := by decide +kernel
theorem dX12_isTuneHere_26 : decode cX12_isTuneHere 26 = .ok (.ifCond .ne 5, 3) := by decide +kernel
theorem dX12_isTuneHere_29 : decode cX12_isTuneHere 29 = .ok (.iconst 0, 1) := by decide +kernel
theorem dX12_isTuneHere_30 : decode cX12_isTuneHere 30 = .ok (.ireturn, 1) := by decide +kernel
theorem dX12_isTuneHere_31 : decode cX12_isTuneHere 31 = .ok (.aload_n 0, 1) := by decide +kernel
theorem dX12_isTuneHere_32 : decode cX12_isTuneHere 32 = .ok (.getfield 26, 3) := by decide +kernel
theorem dX12_isTuneHere_35 : decode cX12_isTuneHere 35 = .ok (.iconst 2, 1) := by decide +kernel
theorem dX12_isTuneHere_36 : decode cX12_isTuneHere 36 = .ok (.aload_n 0, 1) := by decide +kernel
theorem dX12_isTuneHere_37 : decode cX12_isTuneHere 37 = .ok (.getfield 209, 3) := by decide +kernel
theorem dX12_isTuneHere_40 : decode cX12_isTuneHere 40 = .ok (.imul, 1) := by decide +kernel
theorem dX12_isTuneHere_41 : decode cX12_isTuneHere 41 = .ok (.aload_n 0, 1) := by decide +kernel
theorem dX12_isTuneHere_42 : decode cX12_isTuneHere 42 = .ok (.getfield 112, 3) := by decide +kernel
theorem dX12_isTuneHere_45 : decode cX12_isTuneHere 45 = .ok (.iastore, 1) := by decide +kernel
theorem dX12_isTuneHere_46 : decode cX12_isTuneHere 46 = .ok (.aload_n 0, 1) := by decide +kernel
theorem dX12_isTuneHere_47 : decode cX12_isTuneHere 47 = .ok (.iconst 1, 1) := by decide +kernel
theorem dX12_isTuneHere_48 : decode cX12_isTuneHere 48 = .ok (.bipush 8, 2) := by decide +kernel
theorem dX12_isTuneHere_50 : decode cX12_isTuneHere 50 = .ok (.invokevirtual 158, 3) := by decide +kernel
theorem dX12_isTuneHere_53 : decode cX12_isTuneHere 53 = .ok (.ifCond .ne 5, 3) := by decide +kernel
theorem dX12_isTuneHere_56 : decode cX12_isTuneHere 56 = .ok (.iconst 0, 1) := by decide +kernel
theorem dX12_isTuneHere_57 : decode cX12_isTuneHere 57 = .ok (.ireturn, 1) := by decide +kernel
theorem dX12_isTuneHere_58 : decode cX12_isTuneHere 58 = .ok (.aload_n 0, 1) := by decide +kernel
theorem dX12_isTuneHere_59 : decode cX12_isTuneHere 59 = .ok (.getfield 26, 3) := by decide +kernel
theorem dX12_isTuneHere_62 : decode cX12_isTuneHere 62 = .ok (.iconst 2, 1) := by decide +kernel
theorem dX12_isTuneHere_63 : decode cX12_isTuneHere 63 = .ok (.aload_n 0, 1) := by decide +kernel
theorem dX12_isTuneHere_64 : decode cX12_isTuneHere 64 = .ok (.getfield 209, 3) := by decide +kernel
theorem dX12_isTuneHere_67 : decode cX12_isTuneHere 67 = .ok (.imul, 1) := by decide +kernel
theorem dX12_isTuneHere_68 : decode cX12_isTuneHere 68 = .ok (.iconst 1, 1) := by decide +kernel
theorem dX12_isTuneHere_69 : decode cX12_isTuneHere 69 = .ok (.iadd, 1) := by decide +kernel
theorem dX12_isTuneHere_70 : decode cX12_isTuneHere 70 = .ok (.aload_n 0, 1) := by decide +kernel
theorem dX12_isTuneHere_71 : decode cX12_isTuneHere 71 = .ok (.getfield 112, 3) := by decide +kernel
theorem dX12_isTuneHere_74 : decode cX12_isTuneHere 74 = .ok (.iastore, 1) := by decide +kernel
theorem dX12_isTuneHere_75 : decode cX12_isTuneHere 75 = .ok (.aload_n 0, 1) := by decide +kernel
theorem dX12_isTuneHere_76 : decode cX12_isTuneHere 76 = .ok (.dup, 1) := by decide +kernel
theorem dX12_isTuneHere_77 : decode cX12_isTuneHere 77 = .ok (.getfield 209, 3) := by decide +kernel
theorem dX12_isTuneHere_80 : decode cX12_isTuneHere 80 = .ok (.iconst 1, 1) := by decide +kernel
theorem dX12_isTuneHere_81 : decode cX12_isTuneHere 81 = .ok (.iadd, 1) := by decide +kernel
theorem dX12_isTuneHere_82 : decode cX12_isTuneHere 82 = .ok (.putfield 209, 3) := by decide +kernel
theorem dX12_isTuneHere_85 : decode cX12_isTuneHere 85 = .ok (.iconst 1, 1) := by decide +kernel
theorem dX12_isTuneHere_86 : decode cX12_isTuneHere 86 = .ok (.ireturn, 1) := by decide +kernel
set_option maxRecDepth 20000 in
theorem ggX12_isWordTold_X12_fails : GoodIn wsX12_isWordTold wsX12_fails := goodIn_r _ [8, 9, 36, 37, 38, 39, 40, 41, 42, 43, 44, 45, 46, 47, 48, 49, 50, 51, 52, 53, 54, 55, 56, 57, 58, 59, 60, 61, 62, 63, 64, 65, 66, 67, 68, 69, 70, 71, 72] (by decide +kernel) (by decide +kernel)
set_option maxRecDepth 20000 in
theorem gX12_isWordTold_X12_fails : GoodIn wsX12_isWordTold (wsV RX12 108 RX12 yX12_fails wsX12_fails) := goodIn_app (goodIn_of _ (by decide +kernel)) ggX12_isWordTold_X12_fails
set_option maxRecDepth 20000 in
theorem ggX12_isWordTold_X12_passWord : GoodIn wsX12_isWordTold wsX12_passWord := goodIn_r _ [13, 14, 15, 16, 17, 7, 18, 19, 20, 36, 37, 38, 39, 40, 41, 42, 43, 44, 45, 46, 47, 48, 49, 50, 51, 52, 53, 54, 55, 56, 57, 58, 59, 60, 61, 62, 63, 64, 65, 66, 67, 68, 69, 70, 71, 72] (by decide +kernel) (by decide +kernel)
set_option maxRecDepth 20000 in
theorem gX12_isWordTold_X12_passWord : GoodIn wsX12_isWordTold (wsV RX12 102 RX12 yX12_passWord wsX12_passWord) := goodIn_app (goodIn_of _ (by decide +kernel)) ggX12_isWordTold_X12_passWord
set_option maxRecDepth 20000 in
theorem ggX12_isWordTold_X12_numberHere : GoodIn wsX12_isWordTold wsX12_numberHere := goodIn_r _ [24, 14, 20, 3, 25, 26, 27, 7, 28, 19, 29, 30, 31, 32, 4, 5, 6, 8, 9, 33, 34, 35, 36, 37, 38, 39, 40, 41, 42, 43, 44, 45, 46, 47, 48, 49, 50, 51, 52, 53, 54, 55, 56, 57, 58, 59, 60, 61, 62, 63, 64, 65, 66, 67, 68, 69, 70, 71, 72] (by decide +kernel) (by decide +kernel)
set_option maxRecDepth 20000 in
theorem gX12_isWordTold_X12_numberHere : GoodIn wsX12_isWordTold (wsV RX12 158 RX12 yX12_numberHere wsX12_numberHere) := goodIn_app (goodIn_of _ (by decide +kernel)) ggX12_isWordTold_X12_numberHere
theorem dX12_isWordTold_0 : decode cX12_isWordTold 0 = .ok (.aload_n 0, 1) := by decide +kernel
theorem dX12_isWordTold_1 : decode cX12_isWordTold 1 = .ok (.getfield 212, 3) := by decide +kernel
theorem dX12_isWordTold_4 : decode cX12_isWordTold 4 = .ok (.iconst 4, 1) := by decide +kernel
theorem dX12_isWordTold_5 : decode cX12_isWordTold 5 = .ok (.if_icmp .ne 10, 3) := by decide +kernel
theorem dX12_isWordTold_8 : decode cX12_isWordTold 8 = .ok (.aload_n 0, 1) := by decide +kernel
theorem dX12_isWordTold_9 : decode cX12_isWordTold 9 = .ok (.iconst 4, 1) := by decide +kernel
theorem dX12_isWordTold_10 : decode cX12_isWordTold 10 = .ok (.iload_n 1, 1) := by decide +kernel
theorem dX12_isWordTold_11 : decode cX12_isWordTold 11 = .ok (.invokevirtual 108, 3) := by decide +kernel
theorem dX12_isWordTold_14 : decode cX12_isWordTold 14 = .ok (.ireturn, 1) := by decide +kernel
theorem dX12_isWordTold_15 : decode cX12_isWordTold 15 = .ok (.aload_n 0, 1) := by decide +kernel
theorem dX12_isWordTold_16 : decode cX12_isWordTold 16 = .ok (.invokevirtual 102, 3) := by decide +kernel
theorem dX12_isWordTold_19 : decode cX12_isWordTold 19 = .ok (.aload_n 0, 1) := by decide +kernel
theorem dX12_isWordTold_20 : decode cX12_isWordTold 20 = .ok (.iconst 1, 1) := by decide +kernel
theorem dX12_isWordTold_21 : decode cX12_isWordTold 21 = .ok (.bipush 9, 2) := by decide +kernel
theorem dX12_isWordTold_23 : decode cX12_isWordTold 23 = .ok (.invokevirtual 158, 3) := by decide +kernel
theorem dX12_isWordTold_26 : decode cX12_isWordTold 26 = .ok (.ifCond .ne 5, 3) := by decide +kernel
theorem dX12_isWordTold_29 : decode cX12_isWordTold 29 = .ok (.iconst 0, 1) := by decide +kernel
theorem dX12_isWordTold_30 : decode cX12_isWordTold 30 = .ok (.ireturn, 1) := by decide +kernel
theorem dX12_isWordTold_31 : decode cX12_isWordTold 31 = .ok (.aload_n 0, 1) := by decide +kernel
theorem dX12_isWordTold_32 : decode cX12_isWordTold 32 = .ok (.getfield 29, 3) := by decide +kernel
theorem dX12_isWordTold_35 : decode cX12_isWordTold 35 = .ok (.aload_n 0, 1) := by decide +kernel
theorem dX12_isWordTold_36 : decode cX12_isWordTold 36 = .ok (.getfield 212, 3) := by decide +kernel
theorem dX12_isWordTold_39 : decode cX12_isWordTold 39 = .ok (.aload_n 0, 1) := by decide +kernel
theorem dX12_isWordTold_40 : decode cX12_isWordTold 40 = .ok (.getfield 112, 3) := by decide +kernel
theorem dX12_isWordTold_43 : decode cX12_isWordTold 43 = .ok (.iastore, 1) := by decide +kernel
theorem dX12_isWordTold_44 : decode cX12_isWordTold 44 = .ok (.aload_n 0, 1) := by decide +kernel
theorem dX12_isWordTold_45 : decode cX12_isWordTold 45 = .ok (.dup, 1) := by decide +kernel
theorem dX12_isWordTold_46 : decode cX12_isWordTold 46 = .ok (.getfield 212, 3) := by decide +kernel
theorem dX12_isWordTold_49 : decode cX12_isWordTold 49 = .ok (.iconst 1, 1) := by decide +kernel
theorem dX12_isWordTold_50 : decode cX12_isWordTold 50 = .ok (.iadd, 1) := by decide +kernel
theorem dX12_isWordTold_51 : decode cX12_isWordTold 51 = .ok (.putfield 212, 3) := by decide +kernel
theorem dX12_isWordTold_54 : decode cX12_isWordTold 54 = .ok (.iconst 1, 1) := by decide +kernel
theorem dX12_isWordTold_55 : decode cX12_isWordTold 55 = .ok (.ireturn, 1) := by decide +kernel
set_option maxRecDepth 20000 in
theorem ggX12_isPurseHere_X12_passWord : GoodIn wsX12_isPurseHere wsX12_passWord := goodIn_r _ [7, 8, 9, 10, 11, 6, 12, 13, 14, 35, 36, 37, 38, 39, 40, 41, 42, 43, 44, 45, 46, 47, 48, 49, 50, 51, 52, 53, 54, 55, 56, 57, 58, 59, 60, 61, 62, 63, 64, 65, 66, 67, 68, 69, 70, 71] (by decide +kernel) (by decide +kernel)
set_option maxRecDepth 20000 in
theorem gX12_isPurseHere_X12_passWord : GoodIn wsX12_isPurseHere (wsV RX12 102 RX12 yX12_passWord wsX12_passWord) := goodIn_app (goodIn_of _ (by decide +kernel)) ggX12_isPurseHere_X12_passWord
set_option maxRecDepth 20000 in
theorem ggX12_isPurseHere_X12_numberHere : GoodIn wsX12_isPurseHere wsX12_numberHere := goodIn_r _ [18, 8, 14, 1, 19, 20, 21, 6, 22, 13, 23, 24, 25, 26, 27, 28, 29, 30, 31, 32, 33, 34, 35, 36, 37, 38, 39, 40, 41, 42, 43, 44, 45, 46, 47, 48, 49, 50, 51, 52, 53, 54, 55, 56, 57, 58, 59, 60, 61, 62, 63, 64, 65, 66, 67, 68, 69, 70, 71] (by decide +kernel) (by decide +kernel)
set_option maxRecDepth 20000 in
theorem gX12_isPurseHere_X12_numberHere : GoodIn wsX12_isPurseHere (wsV RX12 158 RX12 yX12_numberHere wsX12_numberHere) := goodIn_app (goodIn_of _ (by decide +kernel)) ggX12_isPurseHere_X12_numberHere
theorem dX12_isPurseHere_0 : decode cX12_isPurseHere 0 = .ok (.aload_n 0, 1) := by decide +kernel
theorem dX12_isPurseHere_1 : decode cX12_isPurseHere 1 = .ok (.invokevirtual 102, 3) := by decide +kernel
theorem dX12_isPurseHere_4 : decode cX12_isPurseHere 4 = .ok (.aload_n 0, 1) := by decide +kernel
theorem dX12_isPurseHere_5 : decode cX12_isPurseHere 5 = .ok (.iconst 0, 1) := by decide +kernel
theorem dX12_isPurseHere_6 : decode cX12_isPurseHere 6 = .ok (.iconst 1, 1) := by decide +kernel
theorem dX12_isPurseHere_7 : decode cX12_isPurseHere 7 = .ok (.invokevirtual 158, 3) := by decide +kernel
theorem dX12_isPurseHere_10 : decode cX12_isPurseHere 10 = .ok (.ifCond .ne 5, 3) := by decide +kernel
theorem dX12_isPurseHere_13 : decode cX12_isPurseHere 13 = .ok (.iconst 0, 1) := by decide +kernel
theorem dX12_isPurseHere_14 : decode cX12_isPurseHere 14 = .ok (.ireturn, 1) := by decide +kernel
theorem dX12_isPurseHere_15 : decode cX12_isPurseHere 15 = .ok (.aload_n 0, 1) := by decide +kernel
theorem dX12_isPurseHere_16 : decode cX12_isPurseHere 16 = .ok (.getfield 112, 3) := by decide +kernel
theorem dX12_isPurseHere_19 : decode cX12_isPurseHere 19 = .ok (.istore_n 1, 1) := by decide +kernel
theorem dX12_isPurseHere_20 : decode cX12_isPurseHere 20 = .ok (.aload_n 0, 1) := by decide +kernel
theorem dX12_isPurseHere_21 : decode cX12_isPurseHere 21 = .ok (.iconst 0, 1) := by decide +kernel
theorem dX12_isPurseHere_22 : decode cX12_isPurseHere 22 = .ok (.bipush 7, 2) := by decide +kernel
theorem dX12_isPurseHere_24 : decode cX12_isPurseHere 24 = .ok (.invokevirtual 158, 3) := by decide +kernel
theorem dX12_isPurseHere_27 : decode cX12_isPurseHere 27 = .ok (.ifCond .ne 5, 3) := by decide +kernel
theorem dX12_isPurseHere_30 : decode cX12_isPurseHere 30 = .ok (.iconst 0, 1) := by decide +kernel
theorem dX12_isPurseHere_31 : decode cX12_isPurseHere 31 = .ok (.ireturn, 1) := by decide +kernel
theorem dX12_isPurseHere_32 : decode cX12_isPurseHere 32 = .ok (.aload_n 0, 1) := by decide +kernel
theorem dX12_isPurseHere_33 : decode cX12_isPurseHere 33 = .ok (.getfield 32, 3) := by decide +kernel
theorem dX12_isPurseHere_36 : decode cX12_isPurseHere 36 = .ok (.iload_n 1, 1) := by decide +kernel
theorem dX12_isPurseHere_37 : decode cX12_isPurseHere 37 = .ok (.aload_n 0, 1) := by decide +kernel
theorem dX12_isPurseHere_38 : decode cX12_isPurseHere 38 = .ok (.getfield 112, 3) := by decide +kernel
theorem dX12_isPurseHere_41 : decode cX12_isPurseHere 41 = .ok (.iastore, 1) := by decide +kernel
theorem dX12_isPurseHere_42 : decode cX12_isPurseHere 42 = .ok (.iconst 1, 1) := by decide +kernel
theorem dX12_isPurseHere_43 : decode cX12_isPurseHere 43 = .ok (.ireturn, 1) := by decide +kernel
set_option maxRecDepth 20000 in
theorem ggX12_isAgainHere_X12_fails : GoodIn wsX12_isAgainHere wsX12_fails := goodIn_r _ [7, 8, 35, 36, 37, 38, 39, 40, 41, 42, 43, 44, 45, 46, 47, 48, 49, 50, 51, 52, 53, 54, 55, 56, 57, 58, 59, 60, 61, 62, 63, 64, 65, 66, 67, 68, 69, 70, 71] (by decide +kernel) (by decide +kernel)
set_option maxRecDepth 20000 in
theorem gX12_isAgainHere_X12_fails : GoodIn wsX12_isAgainHere (wsV RX12 108 RX12 yX12_fails wsX12_fails) := goodIn_app (goodIn_of _ (by decide +kernel)) ggX12_isAgainHere_X12_fails
set_option maxRecDepth 20000 in
theorem ggX12_isAgainHere_X12_passWord : GoodIn wsX12_isAgainHere wsX12_passWord := goodIn_r _ [12, 13, 14, 15, 16, 6, 17, 18, 19, 35, 36, 37, 38, 39, 40, 41, 42, 43, 44, 45, 46, 47, 48, 49, 50, 51, 52, 53, 54, 55, 56, 57, 58, 59, 60, 61, 62, 63, 64, 65, 66, 67, 68, 69, 70, 71] (by decide +kernel) (by decide +kernel)
set_option maxRecDepth 20000 in
theorem gX12_isAgainHere_X12_passWord : GoodIn wsX12_isAgainHere (wsV RX12 102 RX12 yX12_passWord wsX12_passWord) := goodIn_app (goodIn_of _ (by decide +kernel)) ggX12_isAgainHere_X12_passWord
set_option maxRecDepth 20000 in
theorem ggX12_isAgainHere_X12_numberHere : GoodIn wsX12_isAgainHere wsX12_numberHere := goodIn_r _ [23, 13, 19, 2, 24, 25, 26, 6, 27, 18, 28, 29, 30, 31, 3, 4, 5, 7, 8, 32, 33, 34, 35, 36, 37, 38, 39, 40, 41, 42, 43, 44, 45, 46, 47, 48, 49, 50, 51, 52, 53, 54, 55, 56, 57, 58, 59, 60, 61, 62, 63, 64, 65, 66, 67, 68, 69, 70, 71] (by decide +kernel) (by decide +kernel)
set_option maxRecDepth 20000 in
theorem gX12_isAgainHere_X12_numberHere : GoodIn wsX12_isAgainHere (wsV RX12 158 RX12 yX12_numberHere wsX12_numberHere) := goodIn_app (goodIn_of _ (by decide +kernel)) ggX12_isAgainHere_X12_numberHere
theorem dX12_isAgainHere_0 : decode cX12_isAgainHere 0 = .ok (.aload_n 0, 1) := by decide +kernel
theorem dX12_isAgainHere_1 : decode cX12_isAgainHere 1 = .ok (.getfield 215, 3) := by decide +kernel
theorem dX12_isAgainHere_4 : decode cX12_isAgainHere 4 = .ok (.ifCond .lt 10, 3) := by decide +kernel
theorem dX12_isAgainHere_7 : decode cX12_isAgainHere 7 = .ok (.aload_n 0, 1) := by decide +kernel
theorem dX12_isAgainHere_8 : decode cX12_isAgainHere 8 = .ok (.iconst 4, 1) := by decide +kernel
theorem dX12_isAgainHere_9 : decode cX12_isAgainHere 9 = .ok (.iload_n 1, 1) := by decide +kernel
theorem dX12_isAgainHere_10 : decode cX12_isAgainHere 10 = .ok (.invokevirtual 108, 3) := by decide +kernel
theorem dX12_isAgainHere_13 : decode cX12_isAgainHere 13 = .ok (.ireturn, 1) := by decide +kernel
theorem dX12_isAgainHere_14 : decode cX12_isAgainHere 14 = .ok (.aload_n 0, 1) := by decide +kernel
theorem dX12_isAgainHere_15 : decode cX12_isAgainHere 15 = .ok (.invokevirtual 102, 3) := by decide +kernel
theorem dX12_isAgainHere_18 : decode cX12_isAgainHere 18 = .ok (.aload_n 0, 1) := by decide +kernel
theorem dX12_isAgainHere_19 : decode cX12_isAgainHere 19 = .ok (.iconst 0, 1) := by decide +kernel
theorem dX12_isAgainHere_20 : decode cX12_isAgainHere 20 = .ok (.bipush 9, 2) := by decide +kernel
theorem dX12_isAgainHere_22 : decode cX12_isAgainHere 22 = .ok (.invokevirtual 158, 3) := by decide +kernel
theorem dX12_isAgainHere_25 : decode cX12_isAgainHere 25 = .ok (.ifCond .ne 5, 3) := by decide +kernel
theorem dX12_isAgainHere_28 : decode cX12_isAgainHere 28 = .ok (.iconst 0, 1) := by decide +kernel
theorem dX12_isAgainHere_29 : decode cX12_isAgainHere 29 = .ok (.ireturn, 1) := by decide +kernel
theorem dX12_isAgainHere_30 : decode cX12_isAgainHere 30 = .ok (.aload_n 0, 1) := by decide +kernel
theorem dX12_isAgainHere_31 : decode cX12_isAgainHere 31 = .ok (.aload_n 0, 1) := by decide +kernel
theorem dX12_isAgainHere_32 : decode cX12_isAgainHere 32 = .ok (.getfield 112, 3) := by decide +kernel
theorem dX12_isAgainHere_35 : decode cX12_isAgainHere 35 = .ok (.putfield 215, 3) := by decide +kernel
theorem dX12_isAgainHere_38 : decode cX12_isAgainHere 38 = .ok (.iconst 1, 1) := by decide +kernel
theorem dX12_isAgainHere_39 : decode cX12_isAgainHere 39 = .ok (.ireturn, 1) := by decide +kernel
set_option maxRecDepth 20000 in
theorem ggX12_doingSort_X12_isWord : GoodIn wsX12_doingSort wsX12_isWord := goodIn_r _ [8, 9, 10, 11, 12, 13, 7, 14, 15, 16, 17, 18, 19, 20, 21, 22, 23, 24, 25, 26, 27, 28, 29, 30, 31, 32, 33, 34, 35, 36, 37, 38, 39, 40, 41, 42, 43, 44, 45, 46, 47, 48, 49, 50, 51, 52, 53, 54, 55, 56] (by decide +kernel) (by decide +kernel)
set_option maxRecDepth 20000 in
theorem gX12_doingSort_X12_isWord : GoodIn wsX12_doingSort (wsV RX12 98 RX12 yX12_isWord wsX12_isWord) := goodIn_app (goodIn_of _ (by decide +kernel)) ggX12_doingSort_X12_isWord
theorem dX12_doingSort_0 : decode cX12_doingSort 0 = .ok (.aload_n 0, 1) := by decide +kernel
theorem dX12_doingSort_1 : decode cX12_doingSort 1 = .ok (.ldc2_w 218, 3) := by decide +kernel
theorem dX12_doingSort_4 : decode cX12_doingSort 4 = .ok (.invokevirtual 98, 3) := by decide +kernel
theorem dX12_doingSort_7 : decode cX12_doingSort 7 = .ok (.ifCond .eq 7, 3) := by decide +kernel
theorem dX12_doingSort_10 : decode cX12_doingSort 10 = .ok (.iconst 0, 1) := by decide +kernel
theorem dX12_doingSort_11 : decode cX12_doingSort 11 = .ok (.goto 32, 3) := by decide +kernel
theorem dX12_doingSort_14 : decode cX12_doingSort 14 = .ok (.aload_n 0, 1) := by decide +kernel
theorem dX12_doingSort_15 : decode cX12_doingSort 15 = .ok (.ldc2_w 220, 3) := by decide +kernel
theorem dX12_doingSort_18 : decode cX12_doingSort 18 = .ok (.invokevirtual 98, 3) := by decide +kernel
theorem dX12_doingSort_21 : decode cX12_doingSort 21 = .ok (.ifCond .eq 7, 3) := by decide +kernel
theorem dX12_doingSort_24 : decode cX12_doingSort 24 = .ok (.iconst 1, 1) := by decide +kernel
theorem dX12_doingSort_25 : decode cX12_doingSort 25 = .ok (.goto 18, 3) := by decide +kernel
theorem dX12_doingSort_28 : decode cX12_doingSort 28 = .ok (.aload_n 0, 1) := by decide +kernel
theorem dX12_doingSort_29 : decode cX12_doingSort 29 = .ok (.ldc2_w 222, 3) := by decide +kernel
theorem dX12_doingSort_32 : decode cX12_doingSort 32 = .ok (.invokevirtual 98, 3) := by decide +kernel
theorem dX12_doingSort_35 : decode cX12_doingSort 35 = .ok (.ifCond .eq 7, 3) := by decide +kernel
theorem dX12_doingSort_38 : decode cX12_doingSort 38 = .ok (.iconst 2, 1) := by decide +kernel
theorem dX12_doingSort_39 : decode cX12_doingSort 39 = .ok (.goto 4, 3) := by decide +kernel
theorem dX12_doingSort_42 : decode cX12_doingSort 42 = .ok (.iconst (-1), 1) := by decide +kernel
theorem dX12_doingSort_43 : decode cX12_doingSort 43 = .ok (.ireturn, 1) := by decide +kernel
set_option maxRecDepth 20000 in
theorem ggX12_clauseHere_X12_see : GoodIn wsX12_clauseHere wsX12_see := goodIn_r _ [12, 1, 13, 14, 158, 159, 160, 161, 162, 163, 164, 165, 166, 167, 168, 169, 170, 171, 172, 173, 174, 175, 176, 177, 178, 179, 180, 181, 182, 183, 184, 185, 186, 187, 188, 189, 190, 191, 192, 193, 194] (by decide +kernel) (by decide +kernel)
set_option maxRecDepth 20000 in
theorem gX12_clauseHere_X12_see : GoodIn wsX12_clauseHere (wsV RX12 90 RX12 yX12_see wsX12_see) := goodIn_app (goodIn_of _ (by decide +kernel)) ggX12_clauseHere_X12_see
set_option maxRecDepth 20000 in
theorem ggX12_clauseHere_X12_isWord : GoodIn wsX12_clauseHere wsX12_isWord := goodIn_r _ [18, 1, 14, 8, 9, 10, 11, 12, 13, 19, 20, 21, 22, 158, 159, 160, 161, 162, 163, 164, 165, 166, 167, 168, 169, 170, 171, 172, 173, 174, 175, 176, 177, 178, 179, 180, 181, 182, 183, 184, 185, 186, 187, 188, 189, 190, 191, 192, 193, 194] (by decide +kernel) (by decide +kernel)
set_option maxRecDepth 20000 in
theorem gX12_clauseHere_X12_isWord : GoodIn wsX12_clauseHere (wsV RX12 98 RX12 yX12_isWord wsX12_isWord) := goodIn_app (goodIn_of _ (by decide +kernel)) ggX12_clauseHere_X12_isWord
set_option maxRecDepth 20000 in
theorem ggX12_clauseHere_X12_doingSort : GoodIn wsX12_clauseHere wsX12_doingSort := goodIn_r _ [26, 27, 28, 29, 15, 16, 17, 11, 18, 1, 14, 8, 9, 10, 12, 13, 19, 20, 21, 22, 158, 159, 160, 161, 162, 163, 164, 165, 166, 167, 168, 169, 170, 171, 172, 173, 174, 175, 176, 177, 178, 179, 180, 181, 182, 183, 184, 185, 186, 187, 188, 189, 190, 191, 192, 193, 194] (by decide +kernel) (by decide +kernel)
set_option maxRecDepth 20000 in
theorem gX12_clauseHere_X12_doingSort : GoodIn wsX12_clauseHere (wsV RX12 232 RX12 yX12_doingSort wsX12_doingSort) := goodIn_app (goodIn_of _ (by decide +kernel)) ggX12_clauseHere_X12_doingSort
set_option maxRecDepth 20000 in
theorem ggX12_clauseHere_X12_fails : GoodIn wsX12_clauseHere wsX12_fails := goodIn_r _ [33, 34, 158, 159, 160, 161, 162, 163, 164, 165, 166, 167, 168, 169, 170, 171, 172, 173, 174, 175, 176, 177, 178, 179, 180, 181, 182, 183, 184, 185, 186, 187, 188, 189, 190, 191, 192, 193, 194] (by decide +kernel) (by decide +kernel)
set_option maxRecDepth 20000 in
theorem gX12_clauseHere_X12_fails : GoodIn wsX12_clauseHere (wsV RX12 108 RX12 yX12_fails wsX12_fails) := goodIn_app (goodIn_of _ (by decide +kernel)) ggX12_clauseHere_X12_fails
set_option maxRecDepth 20000 in
theorem ggX12_clauseHere_X12_isDoingHere : GoodIn wsX12_clauseHere wsX12_isDoingHere := goodIn_r _ [38, 2, 39, 40, 41, 42, 43, 44, 45, 46, 11, 47, 1, 19, 20, 21, 22, 13, 14, 48, 49, 50, 51, 8, 9, 10, 12, 52, 53, 54, 55, 30, 31, 32, 33, 34, 56, 57, 58, 59, 60, 61, 62, 15, 16, 17, 18, 63, 64, 65, 66, 67, 68, 69, 70, 71, 72, 73, 74, 75, 76, 77, 78, 79, 80, 81, 82, 83, 84, 85, 86, 87, 88, 89, 90, 91, 92, 93, 94, 95, 96, 97, 98, 99, 100, 101, 102, 103, 104, 105, 106, 107, 108, 109, 110, 111, 112, 113, 114, 115, 116, 117, 118, 119, 120, 121, 122, 123, 124, 125, 126, 127, 128, 129, 130, 131, 132, 133, 134, 135, 158, 159, 160, 161, 162, 163, 164, 165, 166, 167, 168, 169, 170, 171, 172, 173, 174, 175, 176, 177, 178, 179, 180, 181, 182, 183, 184, 185, 186, 187, 188, 189, 190, 191, 192, 193, 194] (by decide +kernel) (by decide +kernel)
set_option maxRecDepth 20000 in
theorem gX12_clauseHere_X12_isDoingHere : GoodIn wsX12_clauseHere (wsV RX12 238 RX12 yX12_isDoingHere wsX12_isDoingHere) := goodIn_app (goodIn_of _ (by decide +kernel)) ggX12_clauseHere_X12_isDoingHere
set_option maxRecDepth 20000 in
theorem ggX12_clauseHere_X12_isTuneHere : GoodIn wsX12_clauseHere wsX12_isTuneHere := goodIn_r _ [139, 140, 141, 41, 30, 31, 32, 11, 33, 34, 44, 45, 46, 47, 1, 19, 20, 21, 22, 13, 14, 48, 49, 50, 51, 8, 9, 10, 12, 52, 53, 54, 55, 56, 57, 58, 158, 159, 160, 161, 162, 163, 164, 165, 166, 167, 168, 169, 170, 171, 172, 173, 174, 175, 176, 177, 178, 179, 180, 181, 182, 183, 184, 185, 186, 187, 188, 189, 190, 191, 192, 193, 194] (by decide +kernel) (by decide +kernel)
set_option maxRecDepth 20000 in
theorem gX12_clauseHere_X12_isTuneHere : GoodIn wsX12_clauseHere (wsV RX12 241 RX12 yX12_isTuneHere wsX12_isTuneHere) := goodIn_app (goodIn_of _ (by decide +kernel)) ggX12_clauseHere_X12_isTuneHere
set_option maxRecDepth 20000 in
theorem ggX12_clauseHere_X12_isWordTold : GoodIn wsX12_clauseHere wsX12_isWordTold := goodIn_r _ [145, 146, 147, 41, 30, 31, 32, 11, 33, 34, 44, 45, 46, 47, 1, 19, 20, 21, 22, 13, 14, 48, 49, 50, 51, 8, 9, 10, 12, 52, 53, 54, 55, 56, 57, 58, 158, 159, 160, 161, 162, 163, 164, 165, 166, 167, 168, 169, 170, 171, 172, 173, 174, 175, 176, 177, 178, 179, 180, 181, 182, 183, 184, 185, 186, 187, 188, 189, 190, 191, 192, 193, 194] (by decide +kernel) (by decide +kernel)
set_option maxRecDepth 20000 in
theorem gX12_clauseHere_X12_isWordTold : GoodIn wsX12_clauseHere (wsV RX12 244 RX12 yX12_isWordTold wsX12_isWordTold) := goodIn_app (goodIn_of _ (by decide +kernel)) ggX12_clauseHere_X12_isWordTold
set_option maxRecDepth 20000 in
theorem ggX12_clauseHere_X12_isPurseHere : GoodIn wsX12_clauseHere wsX12_isPurseHere := goodIn_r _ [151, 41, 152, 44, 45, 46, 11, 47, 1, 19, 20, 21, 22, 13, 14, 48, 49, 50, 51, 8, 9, 10, 12, 52, 53, 54, 55, 30, 31, 32, 33, 34, 56, 57, 58, 158, 159, 160, 161, 162, 163, 164, 165, 166, 167, 168, 169, 170, 171, 172, 173, 174, 175, 176, 177, 178, 179, 180, 181, 182, 183, 184, 185, 186, 187, 188, 189, 190, 191, 192, 193, 194] (by decide +kernel) (by decide +kernel)
set_option maxRecDepth 20000 in
theorem gX12_clauseHere_X12_isPurseHere : GoodIn wsX12_clauseHere (wsV RX12 247 RX12 yX12_isPurseHere wsX12_isPurseHere) := goodIn_app (goodIn_of _ (by decide +kernel)) ggX12_clauseHere_X12_isPurseHere
set_option maxRecDepth 20000 in
theorem ggX12_clauseHere_X12_isAgainHere : GoodIn wsX12_clauseHere wsX12_isAgainHere := goodIn_r _ [156, 157, 41, 30, 31, 32, 11, 33, 34, 44, 45, 46, 47, 1, 19, 20, 21, 22, 13, 14, 48, 49, 50, 51, 8, 9, 10, 12, 52, 53, 54, 55, 56, 57, 58, 158, 159, 160, 161, 162, 163, 164, 165, 166, 167, 168, 169, 170, 171, 172, 173, 174, 175, 176, 177, 178, 179, 180, 181, 182, 183, 184, 185, 186, 187, 188, 189, 190, 191, 192, 193, 194] (by decide +kernel) (by decide +kernel)
set_option maxRecDepth 20000 in
theorem gX12_clauseHere_X12_isAgainHere : GoodIn wsX12_clauseHere (wsV RX12 250 RX12 yX12_isAgainHere wsX12_isAgainHere) := goodIn_app (goodIn_of _ (by decide +kernel)) ggX12_clauseHere_X12_isAgainHere
theorem dX12_clauseHere_0 : decode cX12_clauseHere 0 = .ok (.aload_n 0, 1) := by decide +kernel
theorem dX12_clauseHere_1 : decode cX12_clauseHere 1 = .ok (.invokevirtual 90, 3) := by decide +kernel
theorem dX12_clauseHere_4 : decode cX12_clauseHere 4 = .ok (.pop, 1) := by decide +kernel
theorem dX12_clauseHere_5 : decode cX12_clauseHere 5 = .ok (.aload_n 0, 1) := by decide +kernel
theorem dX12_clauseHere_6 : decode cX12_clauseHere 6 = .ok (.getfield 87, 3) := by decide +kernel
theorem dX12_clauseHere_9 : decode cX12_clauseHere 9 = .ok (.istore_n 1, 1) := by decide +kernel
theorem dX12_clauseHere_10 : decode cX12_clauseHere 10 = .ok (.aload_n 0, 1) := by decide +kernel
theorem dX12_clauseHere_11 : decode cX12_clauseHere 11 = .ok (.getfield 137, 3) := by decide +kernel
theorem dX12_clauseHere_14 : decode cX12_clauseHere 14 = .ok (.bipush 6, 2) := by decide +kernel
theorem dX12_clauseHere_16 : decode cX12_clauseHere 16 = .ok (.if_icmp .ne 7, 3) := by decide +kernel
theorem dX12_clauseHere_19 : decode cX12_clauseHere 19 = .ok (.iconst 1, 1) := by decide +kernel
theorem dX12_clauseHere_20 : decode cX12_clauseHere 20 = .ok (.goto 4, 3) := by decide +kernel
theorem dX12_clauseHere_23 : decode cX12_clauseHere 23 = .ok (.iconst 0, 1) := by decide +kernel
theorem dX12_clauseHere_24 : decode cX12_clauseHere 24 = .ok (.istore_n 2, 1) := by decide +kernel
theorem dX12_clauseHere_25 : decode cX12_clauseHere 25 = .ok (.iload_n 2, 1) := by decide +kernel
theorem dX12_clauseHere_26 : decode cX12_clauseHere 26 = .ok (.ifCond .eq 51, 3) := by decide +kernel
theorem dX12_clauseHere_29 : decode cX12_clauseHere 29 = .ok (.aload_n 0, 1) := by decide +kernel
theorem dX12_clauseHere_30 : decode cX12_clauseHere 30 = .ok (.ldc2_w 224, 3) := by decide +kernel
theorem dX12_clauseHere_33 : decode cX12_clauseHere 33 = .ok (.invokevirtual 98, 3) := by decide +kernel
theorem dX12_clauseHere_36 : decode cX12_clauseHere 36 = .ok (.ifCond .ne 33, 3) := by decide +kernel
theorem dX12_clauseHere_39 : decode cX12_clauseHere 39 = .ok (.aload_n 0, 1) := by decide +kernel
theorem dX12_clauseHere_40 : decode cX12_clauseHere 40 = .ok (.ldc2_w 226, 3) := by decide +kernel
theorem dX12_clauseHere_43 : decode cX12_clauseHere 43 = .ok (.invokevirtual 98, 3) := by decide +kernel
theorem dX12_clauseHere_46 : decode cX12_clauseHere 46 = .ok (.ifCond .ne 23, 3) := by decide +kernel
theorem dX12_clauseHere_49 : decode cX12_clauseHere 49 = .ok (.aload_n 0, 1) := by decide +kernel
theorem dX12_clauseHere_50 : decode cX12_clauseHere 50 = .ok (.ldc2_w 228, 3) := by decide +kernel
theorem dX12_clauseHere_53 : decode cX12_clauseHere 53 = .ok (.invokevirtual 98, 3) := by decide +kernel
theorem dX12_clauseHere_56 : decode cX12_clauseHere 56 = .ok (.ifCond .ne 13, 3) := by decide +kernel
theorem dX12_clauseHere_59 : decode cX12_clauseHere 59 = .ok (.aload_n 0, 1) := by decide +kernel
theorem dX12_clauseHere_60 : decode cX12_clauseHere 60 = .ok (.ldc2_w 230, 3) := by decide +kernel
theorem dX12_clauseHere_63 : decode cX12_clauseHere 63 = .ok (.invokevirtual 98, 3) := by decide +kernel
theorem dX12_clauseHere_66 : decode cX12_clauseHere 66 = .ok (.ifCond .eq 7, 3) := by decide +kernel
theorem dX12_clauseHere_69 : decode cX12_clauseHere 69 = .ok (.iconst 1, 1) := by decide +kernel
theorem dX12_clauseHere_70 : decode cX12_clauseHere 70 = .ok (.goto 19, 3) := by decide +kernel
theorem dX12_clauseHere_73 : decode cX12_clauseHere 73 = .ok (.iconst 0, 1) := by decide +kernel
theorem dX12_clauseHere_74 : decode cX12_clauseHere 74 = .ok (.goto 15, 3) := by decide +kernel
theorem dX12_clauseHere_77 : decode cX12_clauseHere 77 = .ok (.aload_n 0, 1) := by decide +kernel
theorem dX12_clauseHere_78 : decode cX12_clauseHere 78 = .ok (.invokevirtual 232, 3) := by decide +kernel
theorem dX12_clauseHere_81 : decode cX12_clauseHere 81 = .ok (.ifCond .lt 7, 3) := by decide +kernel
theorem dX12_clauseHere_84 : decode cX12_clauseHere 84 = .ok (.iconst 1, 1) := by decide +kernel
theorem dX12_clauseHere_85 : decode cX12_clauseHere 85 = .ok (.goto 4, 3) := by decide +kernel
theorem dX12_clauseHere_88 : decode cX12_clauseHere 88 = .ok (.iconst 0, 1) := by decide +kernel
theorem dX12_clauseHere_89 : decode cX12_clauseHere 89 = .ok (.istore_n 3, 1) := by decide +kernel
theorem dX12_clauseHere_90 : decode cX12_clauseHere 90 = .ok (.iload_n 3, 1) := by decide +kernel
theorem dX12_clauseHere_91 : decode cX12_clauseHere 91 = .ok (.ifCond .ne 10, 3) := by decide +kernel
theorem dX12_clauseHere_94 : decode cX12_clauseHere 94 = .ok (.aload_n 0, 1) := by decide +kernel
theorem dX12_clauseHere_95 : decode cX12_clauseHere 95 = .ok (.iconst 0, 1) := by decide +kernel
theorem dX12_clauseHere_96 : decode cX12_clauseHere 96 = .ok (.iload_n 1, 1) := by decide +kernel
theorem dX12_clauseHere_97 : decode cX12_clauseHere 97 = .ok (.invokevirtual 108, 3) := by decide +kernel
theorem dX12_clauseHere_100 : decode cX12_clauseHere 100 = .ok (.ireturn, 1) := by decide +kernel
theorem dX12_clauseHere_101 : decode cX12_clauseHere 101 = .ok (.aload_n 0, 1) := by decide +kernel
theorem dX12_clauseHere_102 : decode cX12_clauseHere 102 = .ok (.getfield 235, 3) := by decide +kernel
theorem dX12_clauseHere_105 : decode cX12_clauseHere 105 = .ok (.iload_n 2, 1) := by decide +kernel
theorem dX12_clauseHere_106 : decode cX12_clauseHere 106 = .ok (.ifCond .eq 8, 3) := by decide +kernel
theorem dX12_clauseHere_109 : decode cX12_clauseHere 109 = .ok (.bipush 16, 2) := by decide +kernel
theorem dX12_clauseHere_111 : decode cX12_clauseHere 111 = .ok (.goto 5, 3) := by decide +kernel
theorem dX12_clauseHere_114 : decode cX12_clauseHere 114 = .ok (.bipush 12, 2) := by decide +kernel
theorem dX12_clauseHere_116 : decode cX12_clauseHere 116 = .ok (.if_icmp .ne 10, 3) := by decide +kernel
theorem dX12_clauseHere_119 : decode cX12_clauseHere 119 = .ok (.aload_n 0, 1) := by decide +kernel
theorem dX12_clauseHere_120 : decode cX12_clauseHere 120 = .ok (.iconst 4, 1) := by decide +kernel
theorem dX12_clauseHere_121 : decode cX12_clauseHere 121 = .ok (.iload_n 1, 1) := by decide +kernel
theorem dX12_clauseHere_122 : decode cX12_clauseHere 122 = .ok (.invokevirtual 108, 3) := by decide +kernel
theorem dX12_clauseHere_125 : decode cX12_clauseHere 125 = .ok (.ireturn, 1) := by decide +kernel
theorem dX12_clauseHere_126 : decode cX12_clauseHere 126 = .ok (.aload_n 0, 1) := by decide +kernel
theorem dX12_clauseHere_127 : decode cX12_clauseHere 127 = .ok (.dup, 1) := by decide +kernel
theorem dX12_clauseHere_128 : decode cX12_clauseHere 128 = .ok (.getfield 235, 3) := by decide +kernel
theorem dX12_clauseHere_131 : decode cX12_clauseHere 131 = .ok (.iconst 1, 1) := by decide +kernel
theorem dX12_clauseHere_132 : decode cX12_clauseHere 132 = .ok (.iadd, 1) := by decide +kernel
theorem dX12_clauseHere_133 : decode cX12_clauseHere 133 = .ok (.putfield 235, 3) := by decide +kernel
theorem dX12_clauseHere_136 : decode cX12_clauseHere 136 = .ok (.iload_n 2, 1) := by decide +kernel
theorem dX12_clauseHere_137 : decode cX12_clauseHere 137 = .ok (.ifCond .ne 12, 3) := by decide +kernel
theorem dX12_clauseHere_140 : decode cX12_clauseHere 140 = .ok (.aload_n 0, 1) := by decide +kernel
theorem dX12_clauseHere_141 : decode cX12_clauseHere 141 = .ok (.aload_n 0, 1) := by decide +kernel
theorem dX12_clauseHere_142 : decode cX12_clauseHere 142 = .ok (.invokevirtual 232, 3) := by decide +kernel
theorem dX12_clauseHere_145 : decode cX12_clauseHere 145 = .ok (.invokevirtual 238, 3) := by decide +kernel
theorem dX12_clauseHere_148 : decode cX12_clauseHere 148 = .ok (.ireturn, 1) := by decide +kernel
theorem dX12_clauseHere_149 : decode cX12_clauseHere 149 = .ok (.aload_n 0, 1) := by decide +kernel
theorem dX12_clauseHere_150 : decode cX12_clauseHere 150 = .ok (.ldc2_w 224, 3) := by decide +kernel
theorem dX12_clauseHere_153 : decode cX12_clauseHere 153 = .ok (.invokevirtual 98, 3) := by decide +kernel
theorem dX12_clauseHere_156 : decode cX12_clauseHere 156 = .ok (.ifCond .eq 9, 3) := by decide +kernel
theorem dX12_clauseHere_159 : decode cX12_clauseHere 159 = .ok (.aload_n 0, 1) := by decide +kernel
theorem dX12_clauseHere_160 : decode cX12_clauseHere 160 = .ok (.iload_n 1, 1) := by decide +kernel
theorem dX12_clauseHere_161 : decode cX12_clauseHere 161 = .ok (.invokevirtual 241, 3) := by decide +kernel
theorem dX12_clauseHere_164 : decode cX12_clauseHere 164 = .ok (.ireturn, 1) := by decide +kernel
theorem dX12_clauseHere_165 : decode cX12_clauseHere 165 = .ok (.aload_n 0, 1) := by decide +kernel
theorem dX12_clauseHere_166 : decode cX12_clauseHere 166 = .ok (.ldc2_w 226, 3) := by decide +kernel
theorem dX12_clauseHere_169 : decode cX12_clauseHere 169 = .ok (.invokevirtual 98, 3) := by decide +kernel
theorem dX12_clauseHere_172 : decode cX12_clauseHere 172 = .ok (.ifCond .eq 11, 3) := by decide +kernel
theorem dX12_clauseHere_175 : decode cX12_clauseHere 175 = .ok (.aload_n 0, 1) := by decide +kernel
theorem dX12_clauseHere_176 : decode cX12_clauseHere 176 = .ok (.iload_n 1, 1) := by decide +kernel
theorem dX12_clauseHere_177 : decode cX12_clauseHere 177 = .ok (.invokevirtual 244, 3) := by decide +kernel
theorem dX12_clauseHere_180 : decode cX12_clauseHere 180 = .ok (.goto 25, 3) := by decide +kernel
theorem dX12_clauseHere_183 : decode cX12_clauseHere 183 = .ok (.aload_n 0, 1) := by decide +kernel
theorem dX12_clauseHere_184 : decode cX12_clauseHere 184 = .ok (.ldc2_w 228, 3) := by decide +kernel
theorem dX12_clauseHere_187 : decode cX12_clauseHere 187 = .ok (.invokevirtual 98, 3) := by decide +kernel
theorem dX12_clauseHere_190 : decode cX12_clauseHere 190 = .ok (.ifCond .eq 10, 3) := by decide +kernel
theorem dX12_clauseHere_193 : decode cX12_clauseHere 193 = .ok (.aload_n 0, 1) := by decide +kernel
theorem dX12_clauseHere_194 : decode cX12_clauseHere 194 = .ok (.invokevirtual 247, 3) := by decide +kernel
theorem dX12_clauseHere_197 : decode cX12_clauseHere 197 = .ok (.goto 8, 3) := by decide +kernel
theorem dX12_clauseHere_200 : decode cX12_clauseHere 200 = .ok (.aload_n 0, 1) := by decide +kernel
theorem dX12_clauseHere_201 : decode cX12_clauseHere 201 = .ok (.iload_n 1, 1) := by decide +kernel
theorem dX12_clauseHere_202 : decode cX12_clauseHere 202 = .ok (.invokevirtual 250, 3) := by decide +kernel
theorem dX12_clauseHere_205 : decode cX12_clauseHere 205 = .ok (.ireturn, 1) := by decide +kernel
set_option maxRecDepth 20000 in
theorem ggX12_readsAll_X12_clauseHere : GoodIn wsX12_readsAll wsX12_clauseHere := goodIn_r _ [14, 4, 2, 15, 16, 17, 18, 3, 19, 20, 21, 13, 22, 9, 23, 24, 25, 26, 27, 28, 29, 30, 31, 32, 33, 34, 35, 36, 37, 38, 39, 40, 41, 42, 5, 43, 44, 45, 46, 47, 48, 49, 50, 1, 51, 52, 53, 54, 55, 56, 57, 58, 59, 60, 61, 62, 63, 64, 65, 66, 67, 68, 69, 70, 71, 72, 73, 74, 75, 76, 77, 78, 79, 80, 81, 82, 83, 84, 85, 86, 87, 88, 89, 90, 91, 92, 93, 94, 95, 96, 97, 98, 99, 100, 101, 102, 103, 104, 105, 106, 107, 108, 6, 109, 110, 111, 112, 113, 114, 115, 116, 117, 118, 119, 120, 121, 122, 123, 124, 125, 126, 127, 128, 129, 130, 131, 132, 133, 134, 135, 136, 137, 138, 139, 140, 141, 142, 143, 144, 145, 7, 146, 147, 148, 149, 150, 8, 151, 152, 153, 154, 155, 156, 157, 158, 159, 160, 161, 162, 163, 164, 165, 166, 167, 168, 169, 170, 171, 172, 173, 174, 175, 176, 177, 178, 179, 180, 181, 182, 183, 184, 185, 186, 187, 188, 189, 190, 191, 192, 193, 194, 195, 196, 197, 198] (by decide +kernel) (by decide +kernel)
set_option maxRecDepth 20000 in
theorem gX12_readsAll_X12_clauseHere : GoodIn wsX12_readsAll (wsV RX12 253 RX12 yX12_clauseHere wsX12_clauseHere) := goodIn_app (goodIn_of _ (by decide +kernel)) ggX12_readsAll_X12_clauseHere
set_option maxRecDepth 20000 in
theorem ggX12_readsAll_X12_see : GoodIn wsX12_readsAll wsX12_see := goodIn_r _ [22, 4, 9, 23, 162, 163, 164, 165, 166, 167, 168, 169, 170, 171, 172, 173, 174, 175, 176, 177, 178, 179, 180, 181, 182, 183, 184, 185, 186, 187, 188, 189, 190, 191, 192, 193, 194, 195, 196, 197, 198] (by decide +kernel) (by decide +kernel)
set_option maxRecDepth 20000 in
theorem gX12_readsAll_X12_see : GoodIn wsX12_readsAll (wsV RX12 90 RX12 yX12_see wsX12_see) := goodIn_app (goodIn_of _ (by decide +kernel)) ggX12_readsAll_X12_see
set_option maxRecDepth 20000 in
theorem ggX12_readsAll_X12_fails : GoodIn wsX12_readsAll wsX12_fails := goodIn_r _ [42, 5, 162, 163, 164, 165, 166, 167, 168, 169, 170, 171, 172, 173, 174, 175, 176, 177, 178, 179, 180, 181, 182, 183, 184, 185, 186, 187, 188, 189, 190, 191, 192, 193, 194, 195, 196, 197, 198] (by decide +kernel) (by decide +kernel)
set_option maxRecDepth 20000 in
theorem gX12_readsAll_X12_fails : GoodIn wsX12_readsAll (wsV RX12 108 RX12 yX12_fails wsX12_fails) := goodIn_app (goodIn_of _ (by decide +kernel)) ggX12_readsAll_X12_fails
theorem dX12_readsAll_0 : decode cX12_readsAll 0 = .ok (.aload_n 0, 1) := by decide +kernel
theorem dX12_readsAll_1 : decode cX12_readsAll 1 = .ok (.getfield 17, 3) := by decide +kernel
theorem dX12_readsAll_4 : decode cX12_readsAll 4 = .ok (.aload_n 0, 1) := by decide +kernel
theorem dX12_readsAll_5 : decode cX12_readsAll 5 = .ok (.getfield 137, 3) := by decide +kernel
theorem dX12_readsAll_8 : decode cX12_readsAll 8 = .ok (.iconst 0, 1) := by decide +kernel
theorem dX12_readsAll_9 : decode cX12_readsAll 9 = .ok (.iastore, 1) := by decide +kernel
theorem dX12_readsAll_10 : decode cX12_readsAll 10 = .ok (.aload_n 0, 1) := by decide +kernel
theorem dX12_readsAll_11 : decode cX12_readsAll 11 = .ok (.iconst 0, 1) := by decide +kernel
theorem dX12_readsAll_12 : decode cX12_readsAll 12 = .ok (.putfield 235, 3) := by decide +kernel
theorem dX12_readsAll_15 : decode cX12_readsAll 15 = .ok (.aload_n 0, 1) := by decide +kernel
theorem dX12_readsAll_16 : decode cX12_readsAll 16 = .ok (.iconst 0, 1) := by decide +kernel
theorem dX12_readsAll_17 : decode cX12_readsAll 17 = .ok (.putfield 87, 3) := by decide +kernel
theorem dX12_readsAll_20 : decode cX12_readsAll 20 = .ok (.aload_n 0, 1) := by decide +kernel
theorem dX12_readsAll_21 : decode cX12_readsAll 21 = .ok (.iconst 0, 1) := by decide +kernel
theorem dX12_readsAll_22 : decode cX12_readsAll 22 = .ok (.putfield 84, 3) := by decide +kernel
theorem dX12_readsAll_25 : decode cX12_readsAll 25 = .ok (.aload_n 0, 1) := by decide +kernel
theorem dX12_readsAll_26 : decode cX12_readsAll 26 = .ok (.iconst 0, 1) := by decide +kernel
theorem dX12_readsAll_27 : decode cX12_readsAll 27 = .ok (.putfield 140, 3) := by decide +kernel
theorem dX12_readsAll_30 : decode cX12_readsAll 30 = .ok (.aload_n 0, 1) := by decide +kernel
theorem dX12_readsAll_31 : decode cX12_readsAll 31 = .ok (.invokevirtual 253, 3) := by decide +kernel
theorem dX12_readsAll_34 : decode cX12_readsAll 34 = .ok (.istore_n 1, 1) := by decide +kernel
theorem dX12_readsAll_35 : decode cX12_readsAll 35 = .ok (.iload_n 1, 1) := by decide +kernel
theorem dX12_readsAll_36 : decode cX12_readsAll 36 = .ok (.ifCond .eq 30, 3) := by decide +kernel
theorem dX12_readsAll_39 : decode cX12_readsAll 39 = .ok (.aload_n 0, 1) := by decide +kernel
theorem dX12_readsAll_40 : decode cX12_readsAll 40 = .ok (.invokevirtual 90, 3) := by decide +kernel
theorem dX12_readsAll_43 : decode cX12_readsAll 43 = .ok (.bipush 59, 2) := by decide +kernel
theorem dX12_readsAll_45 : decode cX12_readsAll 45 = .ok (.if_icmp .ne 21, 3) := by decide +kernel
theorem dX12_readsAll_48 : decode cX12_readsAll 48 = .ok (.aload_n 0, 1) := by decide +kernel
theorem dX12_readsAll_49 : decode cX12_readsAll 49 = .ok (.dup, 1) := by decide +kernel
theorem dX12_readsAll_50 : decode cX12_readsAll 50 = .ok (.getfield 87, 3) := by decide +kernel
theorem dX12_readsAll_53 : decode cX12_readsAll 53 = .ok (.iconst 1, 1) := by decide +kernel
theorem dX12_readsAll_54 : decode cX12_readsAll 54 = .ok (.iadd, 1) := by decide +kernel
theorem dX12_readsAll_55 : decode cX12_readsAll 55 = .ok (.putfield 87, 3) := by decide +kernel
theorem dX12_readsAll_58 : decode cX12_readsAll 58 = .ok (.aload_n 0, 1) := by decide +kernel
theorem dX12_readsAll_59 : decode cX12_readsAll 59 = .ok (.invokevirtual 253, 3) := by decide +kernel
theorem dX12_readsAll_62 : decode cX12_readsAll 62 = .ok (.istore_n 1, 1) := by decide +kernel
theorem dX12_readsAll_63 : decode cX12_readsAll 63 = .ok (.goto (-28), 3) := by decide +kernel
theorem dX12_readsAll_66 : decode cX12_readsAll 66 = .ok (.iload_n 1, 1) := by decide +kernel
theorem dX12_readsAll_67 : decode cX12_readsAll 67 = .ok (.ifCond .eq 21, 3) := by decide +kernel
theorem dX12_readsAll_70 : decode cX12_readsAll 70 = .ok (.aload_n 0, 1) := by decide +kernel
theorem dX12_readsAll_71 : decode cX12_readsAll 71 = .ok (.invokevirtual 90, 3) := by decide +kernel
theorem dX12_readsAll_74 : decode cX12_readsAll 74 = .ok (.iconst (-1), 1) := by decide +kernel
theorem dX12_readsAll_75 : decode cX12_readsAll 75 = .ok (.if_icmp .eq 13, 3) := by decide +kernel
theorem dX12_readsAll_78 : decode cX12_readsAll 78 = .ok (.aload_n 0, 1) := by decide +kernel
theorem dX12_readsAll_79 : decode cX12_readsAll 79 = .ok (.iconst 0, 1) := by decide +kernel
theorem dX12_readsAll_80 : decode cX12_readsAll 80 = .ok (.aload_n 0, 1) := by decide +kernel
theorem dX12_readsAll_81 : decode cX12_readsAll 81 = .ok (.getfield 87, 3) := by decide +kernel
theorem dX12_readsAll_84 : decode cX12_readsAll 84 = .ok (.invokevirtual 108, 3) := by decide +kernel
theorem dX12_readsAll_87 : decode cX12_readsAll 87 = .ok (.istore_n 1, 1) := by decide +kernel
theorem dX12_readsAll_88 : decode cX12_readsAll 88 = .ok (.iload_n 1, 1) := by decide +kernel
theorem dX12_readsAll_89 : decode cX12_readsAll 89 = .ok (.ifCond .eq 36, 3) := by decide +kernel
theorem dX12_readsAll_92 : decode cX12_readsAll 92 = .ok (.aload_n 0, 1) := by decide +kernel
theorem dX12_readsAll_93 : decode cX12_readsAll 93 = .ok (.getfield 137, 3) := by decide +kernel
theorem dX12_readsAll_96 : decode cX12_readsAll 96 = .ok (.bipush 6, 2) := by decide +kernel
theorem dX12_readsAll_98 : decode cX12_readsAll 98 = .ok (.if_icmp .ne 27, 3) := by decide +kernel
theorem dX12_readsAll_101 : decode cX12_readsAll 101 = .ok (.aload_n 0, 1) := by decide +kernel
theorem dX12_readsAll_102 : decode cX12_readsAll 102 = .ok (.getfield 209, 3) := by decide +kernel
theorem dX12_readsAll_105 : decode cX12_readsAll 105 = .ok (.ifCond .eq 10, 3) := by decide +kernel
theorem dX12_readsAll_108 : decode cX12_readsAll 108 = .ok (.aload_n 0, 1) := by decide +kernel
theorem dX12_readsAll_109 : decode cX12_readsAll 109 = .ok (.getfield 212, 3) := by decide +kernel
theorem dX12_readsAll_112 : decode cX12_readsAll 112 = .ok (.ifCond .ne 13, 3) := by decide +kernel
theorem dX12_readsAll_115 : decode cX12_readsAll 115 = .ok (.aload_n 0, 1) := by decide +kernel
theorem dX12_readsAll_116 : decode cX12_readsAll 116 = .ok (.iconst 0, 1) := by decide +kernel
theorem dX12_readsAll_117 : decode cX12_readsAll 117 = .ok (.aload_n 0, 1) := by decide +kernel
theorem dX12_readsAll_118 : decode cX12_readsAll 118 = .ok (.getfield 87, 3) := by decide +kernel
theorem dX12_readsAll_121 : decode cX12_readsAll 121 = .ok (.invokevirtual 108, 3) := by decide +kernel
theorem dX12_readsAll_124 : decode cX12_readsAll 124 = .ok (.pop, 1) := by decide +kernel
theorem dX12_readsAll_125 : decode cX12_readsAll 125 = .ok (.aload_n 0, 1) := by decide +kernel
theorem dX12_readsAll_126 : decode cX12_readsAll 126 = .ok (.iconst 0, 1) := by decide +kernel
theorem dX12_readsAll_127 : decode cX12_readsAll 127 = .ok (.putfield 76, 3) := by decide +kernel
theorem dX12_readsAll_130 : decode cX12_readsAll 130 = .ok (.aload_n 0, 1) := by decide +kernel
theorem dX12_readsAll_131 : decode cX12_readsAll 131 = .ok (.getfield 84, 3) := by decide +kernel
theorem dX12_readsAll_134 : decode cX12_readsAll 134 = .ok (.ifCond .ne 7, 3) := by decide +kernel
theorem dX12_readsAll_137 : decode cX12_readsAll 137 = .ok (.iconst 1, 1) := by decide +kernel
theorem dX12_readsAll_138 : decode cX12_readsAll 138 = .ok (.goto 4, 3) := by decide +kernel
theorem dX12_readsAll_141 : decode cX12_readsAll 141 = .ok (.iconst 0, 1) := by decide +kernel
theorem dX12_readsAll_142 : decode cX12_readsAll 142 = .ok (.ireturn, 1) := by decide +kernel
set_option maxRecDepth 20000 in
theorem ggX12_rule_X12_readsAll : GoodIn wsX12_rule wsX12_readsAll := goodIn_r _ [9, 10, 2, 11, 12, 4, 13, 14, 15, 16, 17, 18, 19, 8, 20, 21, 22, 23, 24, 25, 26, 27, 28, 29, 30, 31, 32, 33, 34, 35, 36, 37, 38, 39, 40, 41, 42, 43, 44, 45, 46, 47, 48, 49, 50, 51, 52, 3, 53, 54, 55, 56, 57, 58, 59, 60, 61, 62, 63, 64, 65, 66, 67, 68, 69, 70, 71, 72, 73, 74, 75, 76, 77, 78, 79, 80, 81, 82, 83, 84, 85, 86, 87, 88, 89, 90, 91, 92, 93, 94, 95, 96, 97, 98, 99, 100, 101, 102, 103, 104, 105, 106, 107, 108, 109, 110, 111, 112, 113, 114, 115, 116, 117, 118, 119, 120, 121, 122, 123, 124, 125, 126, 127, 128, 129, 130, 131, 132, 133, 134, 135, 136, 137, 138, 139, 140, 141, 142, 143, 144, 145, 146, 147, 148, 149, 150, 151, 152, 153, 154, 155, 156, 157, 158, 159, 160, 161, 162, 163, 164, 165, 166, 167, 168, 169, 170, 171, 172, 173, 174, 175, 176, 177, 178, 179, 180, 181, 182, 183, 184, 185, 186, 187, 188, 189, 190, 191, 192, 193, 194, 195, 196, 197, 198, 199, 200, 201, 202, 203] (by decide +kernel) (by decide +kernel)
set_option maxRecDepth 20000 in
theorem gX12_rule_X12_readsAll : GoodIn wsX12_rule (wsV RX12 259 RX12 yX12_readsAll wsX12_readsAll) := goodIn_app (goodIn_of _ (by decide +kernel)) ggX12_rule_X12_readsAll
theorem dX12_rule_0 : decode cX12_rule 0 = .ok (.aload_n 0, 1) := by decide +kernel
theorem dX12_rule_1 : decode cX12_rule 1 = .ok (.getfield 256, 3) := by decide +kernel
theorem dX12_rule_4 : decode cX12_rule 4 = .ok (.bipush 6, 2) := by decide +kernel
theorem dX12_rule_6 : decode cX12_rule 6 = .ok (.if_icmp .ne 5, 3) := by decide +kernel
theorem dX12_rule_9 : decode cX12_rule 9 = .ok (.iconst (-1), 1) := by decide +kernel
theorem dX12_rule_10 : decode cX12_rule 10 = .ok (.ireturn, 1) := by decide +kernel
theorem dX12_rule_11 : decode cX12_rule 11 = .ok (.aload_n 0, 1) := by decide +kernel
theorem dX12_rule_12 : decode cX12_rule 12 = .ok (.aload_n 0, 1) := by decide +kernel
theorem dX12_rule_13 : decode cX12_rule 13 = .ok (.getfield 256, 3) := by decide +kernel
theorem dX12_rule_16 : decode cX12_rule 16 = .ok (.putfield 137, 3) := by decide +kernel
theorem dX12_rule_19 : decode cX12_rule 19 = .ok (.aload_n 0, 1) := by decide +kernel
theorem dX12_rule_20 : decode cX12_rule 20 = .ok (.getfield 23, 3) := by decide +kernel
theorem dX12_rule_23 : decode cX12_rule 23 = .ok (.aload_n 0, 1) := by decide +kernel
theorem dX12_rule_24 : decode cX12_rule 24 = .ok (.getfield 137, 3) := by decide +kernel
theorem dX12_rule_27 : decode cX12_rule 27 = .ok (.iconst 0, 1) := by decide +kernel
theorem dX12_rule_28 : decode cX12_rule 28 = .ok (.iastore, 1) := by decide +kernel
theorem dX12_rule_29 : decode cX12_rule 29 = .ok (.aload_n 0, 1) := by decide +kernel
theorem dX12_rule_30 : decode cX12_rule 30 = .ok (.invokevirtual 259, 3) := by decide +kernel
theorem dX12_rule_33 : decode cX12_rule 33 = .ok (.ifCond .ne 11, 3) := by decide +kernel
theorem dX12_rule_36 : decode cX12_rule 36 = .ok (.bipush (-2), 2) := by decide +kernel
theorem dX12_rule_38 : decode cX12_rule 38 = .ok (.aload_n 0, 1) := by decide +kernel
theorem dX12_rule_39 : decode cX12_rule 39 = .ok (.getfield 84, 3) := by decide +kernel
theorem dX12_rule_42 : decode cX12_rule 42 = .ok (.isub, 1) := by decide +kernel
theorem dX12_rule_43 : decode cX12_rule 43 = .ok (.ireturn, 1) := by decide +kernel
theorem dX12_rule_44 : decode cX12_rule 44 = .ok (.aload_n 0, 1) := by decide +kernel
theorem dX12_rule_45 : decode cX12_rule 45 = .ok (.dup, 1) := by decide +kernel
theorem dX12_rule_46 : decode cX12_rule 46 = .ok (.getfield 256, 3) := by decide +kernel
theorem dX12_rule_49 : decode cX12_rule 49 = .ok (.iconst 1, 1) := by decide +kernel
theorem dX12_rule_50 : decode cX12_rule 50 = .ok (.iadd, 1) := by decide +kernel
theorem dX12_rule_51 : decode cX12_rule 51 = .ok (.putfield 256, 3) := by decide +kernel
theorem dX12_rule_54 : decode cX12_rule 54 = .ok (.aload_n 0, 1) := by decide +kernel
theorem dX12_rule_55 : decode cX12_rule 55 = .ok (.getfield 256, 3) := by decide +kernel
theorem dX12_rule_58 : decode cX12_rule 58 = .ok (.iconst 1, 1) := by decide +kernel
theorem dX12_rule_59 : decode cX12_rule 59 = .ok (.isub, 1) := by decide +kernel
theorem dX12_rule_60 : decode cX12_rule 60 = .ok (.ireturn, 1) := by decide +kernel
set_option maxRecDepth 20000 in
theorem ggX12_corner_X12_readsAll : GoodIn wsX12_corner wsX12_readsAll := goodIn_r _ [14, 15, 1, 16, 17, 6, 18, 2, 3, 19, 20, 21, 22, 13, 23, 24, 25, 26, 27, 28, 29, 30, 31, 32, 33, 34, 35, 36, 37, 38, 39, 40, 41, 42, 43, 44, 45, 46, 47, 48, 49, 50, 51, 52, 53, 54, 55, 56, 57, 58, 59, 60, 61, 62, 63, 64, 65, 66, 67, 68, 69, 70, 71, 72, 73, 74, 75, 76, 77, 78, 79, 80, 81, 82, 83, 84, 85, 86, 87, 88, 89, 90, 91, 92, 93, 94, 95, 96, 97, 98, 99, 100, 101, 102, 103, 104, 105, 106, 107, 108, 109, 110, 111, 112, 113, 114, 115, 116, 117, 118, 119, 120, 121, 122, 123, 124, 125, 126, 127, 128, 129, 130, 131, 132, 133, 134, 135, 136, 137, 138, 139, 140, 141, 142, 143, 144, 145, 146, 147, 148, 149, 150, 151, 152, 153, 154, 8, 155, 156, 157, 158, 9, 159, 160, 161, 162, 5, 163, 164, 165, 166, 4, 167, 168, 169, 170, 171, 172, 173, 174, 175, 176, 177, 178, 179, 180, 181, 182, 183, 184, 185, 186, 187, 188, 189, 190, 191, 192, 193, 194, 195, 196, 197, 198, 199, 200, 201, 202, 203] (by decide +kernel) (by decide +kernel)
set_option maxRecDepth 20000 in
theorem gX12_corner_X12_readsAll : GoodIn wsX12_corner (wsV RX12 259 RX12 yX12_readsAll wsX12_readsAll) := goodIn_app (goodIn_of _ (by decide +kernel)) ggX12_corner_X12_readsAll
theorem dX12_corner_0 : decode cX12_corner 0 = .ok (.aload_n 0, 1) := by decide +kernel
theorem dX12_corner_1 : decode cX12_corner 1 = .ok (.bipush 6, 2) := by decide +kernel
theorem dX12_corner_3 : decode cX12_corner 3 = .ok (.putfield 137, 3) := by decide +kernel
theorem dX12_corner_6 : decode cX12_corner 6 = .ok (.aload_n 0, 1) := by decide +kernel
theorem dX12_corner_7 : decode cX12_corner 7 = .ok (.iconst 0, 1) := by decide +kernel
theorem dX12_corner_8 : decode cX12_corner 8 = .ok (.putfield 209, 3) := by decide +kernel
theorem dX12_corner_11 : decode cX12_corner 11 = .ok (.aload_n 0, 1) := by decide +kernel
theorem dX12_corner_12 : decode cX12_corner 12 = .ok (.iconst 0, 1) := by decide +kernel
theorem dX12_corner_13 : decode cX12_corner 13 = .ok (.putfield 212, 3) := by decide +kernel
theorem dX12_corner_16 : decode cX12_corner 16 = .ok (.aload_n 0, 1) := by decide +kernel
theorem dX12_corner_17 : decode cX12_corner 17 = .ok (.iconst (-1), 1) := by decide +kernel
theorem dX12_corner_18 : decode cX12_corner 18 = .ok (.putfield 215, 3) := by decide +kernel
theorem dX12_corner_21 : decode cX12_corner 21 = .ok (.aload_n 0, 1) := by decide +kernel
theorem dX12_corner_22 : decode cX12_corner 22 = .ok (.getfield 32, 3) := by decide +kernel
theorem dX12_corner_25 : decode cX12_corner 25 = .ok (.iconst 0, 1) := by decide +kernel
theorem dX12_corner_26 : decode cX12_corner 26 = .ok (.iconst 0, 1) := by decide +kernel
theorem dX12_corner_27 : decode cX12_corner 27 = .ok (.iastore, 1) := by decide +kernel
theorem dX12_corner_28 : decode cX12_corner 28 = .ok (.aload_n 0, 1) := by decide +kernel
theorem dX12_corner_29 : decode cX12_corner 29 = .ok (.getfield 32, 3) := by decide +kernel
theorem dX12_corner_32 : decode cX12_corner 32 = .ok (.iconst 1, 1) := by decide +kernel
theorem dX12_corner_33 : decode cX12_corner 33 = .ok (.iconst 0, 1) := by decide +kernel
theorem dX12_corner_34 : decode cX12_corner 34 = .ok (.iastore, 1) := by decide +kernel
theorem dX12_corner_35 : decode cX12_corner 35 = .ok (.aload_n 0, 1) := by decide +kernel
theorem dX12_corner_36 : decode cX12_corner 36 = .ok (.invokevirtual 259, 3) := by decide +kernel
theorem dX12_corner_39 : decode cX12_corner 39 = .ok (.ifCond .ne 11, 3) := by decide +kernel
theorem dX12_corner_42 : decode cX12_corner 42 = .ok (.bipush (-2), 2) := by decide +kernel
theorem dX12_corner_44 : decode cX12_corner 44 = .ok (.aload_n 0, 1) := by decide +kernel
theorem dX12_corner_45 : decode cX12_corner 45 = .ok (.getfield 84, 3) := by decide +kernel
theorem dX12_corner_48 : decode cX12_corner 48 = .ok (.isub, 1) := by decide +kernel
theorem dX12_corner_49 : decode cX12_corner 49 = .ok (.ireturn, 1) := by decide +kernel
theorem dX12_corner_50 : decode cX12_corner 50 = .ok (.aload_n 0, 1) := by decide +kernel
theorem dX12_corner_51 : decode cX12_corner 51 = .ok (.getfield 45, 3) := by decide +kernel
theorem dX12_corner_54 : decode cX12_corner 54 = .ok (.bipush 11, 2) := by decide +kernel
theorem dX12_corner_56 : decode cX12_corner 56 = .ok (.iaload, 1) := by decide +kernel
theorem dX12_corner_57 : decode cX12_corner 57 = .ok (.istore_n 1, 1) := by decide +kernel
theorem dX12_corner_58 : decode cX12_corner 58 = .ok (.iconst 0, 1) := by decide +kernel
theorem dX12_corner_59 : decode cX12_corner 59 = .ok (.istore_n 2, 1) := by decide +kernel
theorem dX12_corner_60 : decode cX12_corner 60 = .ok (.iload_n 2, 1) := by decide +kernel
theorem dX12_corner_61 : decode cX12_corner 61 = .ok (.bipush 44, 2) := by decide +kernel
theorem dX12_corner_63 : decode cX12_corner 63 = .ok (.if_icmp .ge 16, 3) := by decide +kernel
theorem dX12_corner_66 : decode cX12_corner 66 = .ok (.aload_n 0, 1) := by decide +kernel
theorem dX12_corner_67 : decode cX12_corner 67 = .ok (.getfield 45, 3) := by decide +kernel
theorem dX12_corner_70 : decode cX12_corner 70 = .ok (.iload_n 2, 1) := by decide +kernel
theorem dX12_corner_71 : decode cX12_corner 71 = .ok (.iconst 0, 1) := by decide +kernel
theorem dX12_corner_72 : decode cX12_corner 72 = .ok (.iastore, 1) := by decide +kernel
theorem dX12_corner_73 : decode cX12_corner 73 = .ok (.iinc 2 1, 3) := by decide +kernel
theorem dX12_corner_76 : decode cX12_corner 76 = .ok (.goto (-16), 3) := by decide +kernel
theorem dX12_corner_79 : decode cX12_corner 79 = .ok (.aload_n 0, 1) := by decide +kernel
theorem dX12_corner_80 : decode cX12_corner 80 = .ok (.getfield 45, 3) := by decide +kernel
theorem dX12_corner_83 : decode cX12_corner 83 = .ok (.iconst 0, 1) := by decide +kernel
theorem dX12_corner_84 : decode cX12_corner 84 = .ok (.aload_n 0, 1) := by decide +kernel
theorem dX12_corner_85 : decode cX12_corner 85 = .ok (.getfield 209, 3) := by decide +kernel
theorem dX12_corner_88 : decode cX12_corner 88 = .ok (.iastore, 1) := by decide +kernel
theorem dX12_corner_89 : decode cX12_corner 89 = .ok (.aload_n 0, 1) := by decide +kernel
theorem dX12_corner_90 : decode cX12_corner 90 = .ok (.getfield 45, 3) := by decide +kernel
theorem dX12_corner_93 : decode cX12_corner 93 = .ok (.iconst 1, 1) := by decide +kernel
theorem dX12_corner_94 : decode cX12_corner 94 = .ok (.aload_n 0, 1) := by decide +kernel
theorem dX12_corner_95 : decode cX12_corner 95 = .ok (.getfield 212, 3) := by decide +kernel
theorem dX12_corner_98 : decode cX12_corner 98 = .ok (.iastore, 1) := by decide +kernel
theorem dX12_corner_99 : decode cX12_corner 99 = .ok (.aload_n 0, 1) := by decide +kernel
theorem dX12_corner_100 : decode cX12_corner 100 = .ok (.getfield 45, 3) := by decide +kernel
theorem dX12_corner_103 : decode cX12_corner 103 = .ok (.iconst 2, 1) := by decide +kernel
theorem dX12_corner_104 : decode cX12_corner 104 = .ok (.aload_n 0, 1) := by decide +kernel
theorem dX12_corner_105 : decode cX12_corner 105 = .ok (.getfield 215, 3) := by decide +kernel
theorem dX12_corner_108 : decode cX12_corner 108 = .ok (.ifCond .ge 7, 3) := by decide +kernel
theorem dX12_corner_111 : decode cX12_corner 111 = .ok (.iconst 0, 1) := by decide +kernel
theorem dX12_corner_112 : decode cX12_corner 112 = .ok (.goto 7, 3) := by decide +kernel
theorem dX12_corner_115 : decode cX12_corner 115 = .ok (.aload_n 0, 1) := by decide +kernel
theorem dX12_corner_116 : decode cX12_corner 116 = .ok (.getfield 215, 3) := by decide +kernel
theorem dX12_corner_119 : decode cX12_corner 119 = .ok (.iastore, 1) := by decide +kernel
theorem dX12_corner_120 : decode cX12_corner 120 = .ok (.aload_n 0, 1) := by decide +kernel
theorem dX12_corner_121 : decode cX12_corner 121 = .ok (.getfield 45, 3) := by decide +kernel
theorem dX12_corner_124 : decode cX12_corner 124 = .ok (.bipush 11, 2) := by decide +kernel
theorem dX12_corner_126 : decode cX12_corner 126 = .ok (.iload_n 1, 1) := by decide +kernel
theorem dX12_corner_127 : decode cX12_corner 127 = .ok (.iastore, 1) := by decide +kernel
theorem dX12_corner_128 : decode cX12_corner 128 = .ok (.iconst 0, 1) := by decide +kernel
theorem dX12_corner_129 : decode cX12_corner 129 = .ok (.istore_n 2, 1) := by decide +kernel
theorem dX12_corner_130 : decode cX12_corner 130 = .ok (.iload_n 2, 1) := by decide +kernel
theorem dX12_corner_131 : decode cX12_corner 131 = .ok (.iconst 2, 1) := by decide +kernel
theorem dX12_corner_132 : decode cX12_corner 132 = .ok (.if_icmp .ge 35, 3) := by decide +kernel
theorem dX12_corner_135 : decode cX12_corner 135 = .ok (.aload_n 0, 1) := by decide +kernel
theorem dX12_corner_136 : decode cX12_corner 136 = .ok (.getfield 45, 3) := by decide +kernel
theorem dX12_corner_139 : decode cX12_corner 139 = .ok (.bipush 12, 2) := by decide +kernel
theorem dX12_corner_141 : decode cX12_corner 141 = .ok (.iload_n 2, 1) := by decide +kernel
theorem dX12_corner_142 : decode cX12_corner 142 = .ok (.iadd, 1) := by decide +kernel
theorem dX12_corner_143 : decode cX12_corner 143 = .ok (.aload_n 0, 1) := by decide +kernel
theorem dX12_corner_144 : decode cX12_corner 144 = .ok (.getfield 32, 3) := by decide +kernel
theorem dX12_corner_147 : decode cX12_corner 147 = .ok (.iload_n 2, 1) := by decide +kernel
theorem dX12_corner_148 : decode cX12_corner 148 = .ok (.iaload, 1) := by decide +kernel
theorem dX12_corner_149 : decode cX12_corner 149 = .ok (.iastore, 1) := by decide +kernel
theorem dX12_corner_150 : decode cX12_corner 150 = .ok (.aload_n 0, 1) := by decide +kernel
theorem dX12_corner_151 : decode cX12_corner 151 = .ok (.getfield 45, 3) := by decide +kernel
theorem dX12_corner_154 : decode cX12_corner 154 = .ok (.bipush 14, 2) := by decide +kernel
theorem dX12_corner_156 : decode cX12_corner 156 = .ok (.iload_n 2, 1) := by decide +kernel
theorem dX12_corner_157 : decode cX12_corner 157 = .ok (.iadd, 1) := by decide +kernel
theorem dX12_corner_158 : decode cX12_corner 158 = .ok (.bipush 9, 2) := by decide +kernel
theorem dX12_corner_160 : decode cX12_corner 160 = .ok (.iastore, 1) := by decide +kernel
theorem dX12_corner_161 : decode cX12_corner 161 = .ok (.iinc 2 1, 3) := by decide +kernel
theorem dX12_corner_164 : decode cX12_corner 164 = .ok (.goto (-34), 3) := by decide +kernel
theorem dX12_corner_167 : decode cX12_corner 167 = .ok (.iconst 0, 1) := by decide +kernel
theorem dX12_corner_168 : decode cX12_corner 168 = .ok (.istore_n 2, 1) := by decide +kernel
theorem dX12_corner_169 : decode cX12_corner 169 = .ok (.iload_n 2, 1) := by decide +kernel
theorem dX12_corner_170 : decode cX12_corner 170 = .ok (.iconst 2, 1) := by decide +kernel
theorem dX12_corner_171 : decode cX12_corner 171 = .ok (.aload_n 0, 1) := by decide +kernel
theorem dX12_corner_172 : decode cX12_corner 172 = .ok (.getfield 209, 3) := by decide +kernel
theorem dX12_corner_175 : decode cX12_corner 175 = .ok (.imul, 1) := by decide +kernel
theorem dX12_corner_176 : decode cX12_corner 176 = .ok (.if_icmp .ge 24, 3) := by decide +kernel
theorem dX12_corner_179 : decode cX12_corner 179 = .ok (.aload_n 0, 1) := by decide +kernel
theorem dX12_corner_180 : decode cX12_corner 180 = .ok (.getfield 45, 3) := by decide +kernel
theorem dX12_corner_183 : decode cX12_corner 183 = .ok (.bipush 20, 2) := by decide +kernel
theorem dX12_corner_185 : decode cX12_corner 185 = .ok (.iload_n 2, 1) := by decide +kernel
theorem dX12_corner_186 : decode cX12_corner 186 = .ok (.iadd, 1) := by decide +kernel
theorem dX12_corner_187 : decode cX12_corner 187 = .ok (.aload_n 0, 1) := by decide +kernel
theorem dX12_corner_188 : decode cX12_corner 188 = .ok (.getfield 26, 3) := by decide +kernel
theorem dX12_corner_191 : decode cX12_corner 191 = .ok (.iload_n 2, 1) := by decide +kernel
theorem dX12_corner_192 : decode cX12_corner 192 = .ok (.iaload, 1) := by decide +kernel
theorem dX12_corner_193 : decode cX12_corner 193 = .ok (.iastore, 1) := by decide +kernel
theorem dX12_corner_194 : decode cX12_corner 194 = .ok (.iinc 2 1, 3) := by decide +kernel
theorem dX12_corner_197 : decode cX12_corner 197 = .ok (.goto (-28), 3) := by decide +kernel
theorem dX12_corner_200 : decode cX12_corner 200 = .ok (.iconst 0, 1) := by decide +kernel
theorem dX12_corner_201 : decode cX12_corner 201 = .ok (.istore_n 2, 1) := by decide +kernel
theorem dX12_corner_202 : decode cX12_corner 202 = .ok (.iload_n 2, 1) := by decide +kernel
theorem dX12_corner_203 : decode cX12_corner 203 = .ok (.aload_n 0, 1) := by decide +kernel
theorem dX12_corner_204 : decode cX12_corner 204 = .ok (.getfield 212, 3) := by decide +kernel
theorem dX12_corner_207 : decode cX12_corner 207 = .ok (.if_icmp .ge 24, 3) := by decide +kernel
theorem dX12_corner_210 : decode cX12_corner 210 = .ok (.aload_n 0, 1) := by decide +kernel
theorem dX12_corner_211 : decode cX12_corner 211 = .ok (.getfield 45, 3) := by decide +kernel
theorem dX12_corner_214 : decode cX12_corner 214 = .ok (.bipush 28, 2) := by decide +kernel
theorem dX12_corner_216 : decode cX12_corner 216 = .ok (.iload_n 2, 1) := by decide +kernel
theorem dX12_corner_217 : decode cX12_corner 217 = .ok (.iadd, 1) := by decide +kernel
theorem dX12_corner_218 : decode cX12_corner 218 = .ok (.aload_n 0, 1) := by decide +kernel
theorem dX12_corner_219 : decode cX12_corner 219 = .ok (.getfield 29, 3) := by decide +kernel
theorem dX12_corner_222 : decode cX12_corner 222 = .ok (.iload_n 2, 1) := by decide +kernel
theorem dX12_corner_223 : decode cX12_corner 223 = .ok (.iaload, 1) := by decide +kernel
theorem dX12_corner_224 : decode cX12_corner 224 = .ok (.iastore, 1) := by decide +kernel
theorem dX12_corner_225 : decode cX12_corner 225 = .ok (.iinc 2 1, 3) := by decide +kernel
theorem dX12_corner_228 : decode cX12_corner 228 = .ok (.goto (-26), 3) := by decide +kernel
theorem dX12_corner_231 : decode cX12_corner 231 = .ok (.aload_n 0, 1) := by decide +kernel
theorem dX12_corner_232 : decode cX12_corner 232 = .ok (.getfield 209, 3) := by decide +kernel
theorem dX12_corner_235 : decode cX12_corner 235 = .ok (.ireturn, 1) := by decide +kernel
theorem dX12_isRule_0 : decode cX12_isRule 0 = .ok (.iload_n 1, 1) := by decide +kernel
theorem dX12_isRule_1 : decode cX12_isRule 1 = .ok (.ifCond .lt 15, 3) := by decide +kernel
theorem dX12_isRule_4 : decode cX12_isRule 4 = .ok (.iload_n 1, 1) := by decide +kernel
theorem dX12_isRule_5 : decode cX12_isRule 5 = .ok (.aload_n 0, 1) := by decide +kernel
theorem dX12_isRule_6 : decode cX12_isRule 6 = .ok (.getfield 256, 3) := by decide +kernel
theorem dX12_isRule_9 : decode cX12_isRule 9 = .ok (.if_icmp .ge 7, 3) := by decide +kernel
theorem dX12_isRule_12 : decode cX12_isRule 12 = .ok (.iconst 1, 1) := by decide +kernel
theorem dX12_isRule_13 : decode cX12_isRule 13 = .ok (.goto 4, 3) := by decide +kernel
theorem dX12_isRule_16 : decode cX12_isRule 16 = .ok (.iconst 0, 1) := by decide +kernel
theorem dX12_isRule_17 : decode cX12_isRule 17 = .ok (.ireturn, 1) := by decide +kernel
theorem dX12_push_0 : decode cX12_push 0 = .ok (.aload_n 0, 1) := by decide +kernel
theorem dX12_push_1 : decode cX12_push 1 = .ok (.getfield 38, 3) := by decide +kernel
theorem dX12_push_4 : decode cX12_push 4 = .ok (.aload_n 0, 1) := by decide +kernel
theorem dX12_push_5 : decode cX12_push 5 = .ok (.getfield 262, 3) := by decide +kernel
theorem dX12_push_8 : decode cX12_push 8 = .ok (.lload_n 1, 1) := by decide +kernel
theorem dX12_push_9 : decode cX12_push 9 = .ok (.lastore, 1) := by decide +kernel
theorem dX12_push_10 : decode cX12_push 10 = .ok (.aload_n 0, 1) := by decide +kernel
theorem dX12_push_11 : decode cX12_push 11 = .ok (.dup, 1) := by decide +kernel
theorem dX12_push_12 : decode cX12_push 12 = .ok (.getfield 262, 3) := by decide +kernel
theorem dX12_push_15 : decode cX12_push 15 = .ok (.iconst 1, 1) := by decide +kernel
theorem dX12_push_16 : decode cX12_push 16 = .ok (.iadd, 1) := by decide +kernel
theorem dX12_push_17 : decode cX12_push 17 = .ok (.putfield 262, 3) := by decide +kernel
theorem dX12_push_20 : decode cX12_push 20 = .ok (.return_, 1) := by decide +kernel
theorem dX12_pop_0 : decode cX12_pop 0 = .ok (.aload_n 0, 1) := by decide +kernel
theorem dX12_pop_1 : decode cX12_pop 1 = .ok (.dup, 1) := by decide +kernel
theorem dX12_pop_2 : decode cX12_pop 2 = .ok (.getfield 262, 3) := by decide +kernel
theorem dX12_pop_5 : decode cX12_pop 5 = .ok (.iconst 1, 1) := by decide +kernel
theorem dX12_pop_6 : decode cX12_pop 6 = .ok (.isub, 1) := by decide +kernel
theorem dX12_pop_7 : decode cX12_pop 7 = .ok (.putfield 262, 3) := by decide +kernel
theorem dX12_pop_10 : decode cX12_pop 10 = .ok (.aload_n 0, 1) := by decide +kernel
theorem dX12_pop_11 : decode cX12_pop 11 = .ok (.getfield 38, 3) := by decide +kernel
theorem dX12_pop_14 : decode cX12_pop 14 = .ok (.aload_n 0, 1) := by decide +kernel
theorem dX12_pop_15 : decode cX12_pop 15 = .ok (.getfield 262, 3) := by decide +kernel
theorem dX12_pop_18 : decode cX12_pop 18 = .ok (.laload, 1) := by decide +kernel
theorem dX12_pop_19 : decode cX12_pop 19 = .ok (.lreturn, 1) := by decide +kernel
theorem dX12_one_0 : decode cX12_one 0 = .ok (.iload_n 0, 1) := by decide +kernel
theorem dX12_one_1 : decode cX12_one 1 = .ok (.tableswitch 149 2 12 #[59, 63, 67, 71, 85, 97, 109, 121, 133, 149, 145], 59) := by decide +kernel
theorem dX12_one_60 : decode cX12_one 60 = .ok (.lload_n 1, 1) := by decide +kernel
theorem dX12_one_61 : decode cX12_one 61 = .ok (.lload_n 3, 1) := by decide +kernel
theorem dX12_one_62 : decode cX12_one 62 = .ok (.ladd, 1) := by decide +kernel
theorem dX12_one_63 : decode cX12_one 63 = .ok (.lreturn, 1) := by decide +kernel
theorem dX12_one_64 : decode cX12_one 64 = .ok (.lload_n 1, 1) := by decide +kernel
theorem dX12_one_65 : decode cX12_one 65 = .ok (.lload_n 3, 1) := by decide +kernel
theorem dX12_one_66 : decode cX12_one 66 = .ok (.lsub, 1) := by decide +kernel
theorem dX12_one_67 : decode cX12_one 67 = .ok (.lreturn, 1) := by decide +kernel
theorem dX12_one_68 : decode cX12_one 68 = .ok (.lload_n 1, 1) := by decide +kernel
theorem dX12_one_69 : decode cX12_one 69 = .ok (.lload_n 3, 1) := by decide +kernel
theorem dX12_one_70 : decode cX12_one 70 = .ok (.lmul, 1) := by decide +kernel
theorem dX12_one_71 : decode cX12_one 71 = .ok (.lreturn, 1) := by decide +kernel
theorem dX12_one_72 : decode cX12_one 72 = .ok (.lload_n 3, 1) := by decide +kernel
theorem dX12_one_73 : decode cX12_one 73 = .ok (.lconst 0, 1) := by decide +kernel
theorem dX12_one_74 : decode cX12_one 74 = .ok (.lcmp, 1) := by decide +kernel
theorem dX12_one_75 : decode cX12_one 75 = .ok (.ifCond .ne 7, 3) := by decide +kernel
theorem dX12_one_78 : decode cX12_one 78 = .ok (.lconst 0, 1) := by decide +kernel
theorem dX12_one_79 : decode cX12_one 79 = .ok (.goto 6, 3) := by decide +kernel
theorem dX12_one_82 : decode cX12_one 82 = .ok (.lload_n 1, 1) := by decide +kernel
theorem dX12_one_83 : decode cX12_one 83 = .ok (.lload_n 3, 1) := by decide +kernel
theorem dX12_one_84 : decode cX12_one 84 = .ok (.ldiv, 1) := by decide +kernel
theorem dX12_one_85 : decode cX12_one 85 = .ok (.lreturn, 1) := by decide +kernel
theorem dX12_one_86 : decode cX12_one 86 = .ok (.lload_n 1, 1) := by decide +kernel
theorem dX12_one_87 : decode cX12_one 87 = .ok (.lload_n 3, 1) := by decide +kernel
theorem dX12_one_88 : decode cX12_one 88 = .ok (.lcmp, 1) := by decide +kernel
theorem dX12_one_89 : decode cX12_one 89 = .ok (.ifCond .ge 7, 3) := by decide +kernel
theorem dX12_one_92 : decode cX12_one 92 = .ok (.lconst 1, 1) := by decide +kernel
theorem dX12_one_93 : decode cX12_one 93 = .ok (.goto 4, 3) := by decide +kernel
theorem dX12_one_96 : decode cX12_one 96 = .ok (.lconst 0, 1) := by decide +kernel
theorem dX12_one_97 : decode cX12_one 97 = .ok (.lreturn, 1) := by decide +kernel
theorem dX12_one_98 : decode cX12_one 98 = .ok (.lload_n 1, 1) := by decide +kernel
theorem dX12_one_99 : decode cX12_one 99 = .ok (.lload_n 3, 1) := by decide +kernel
theorem dX12_one_100 : decode cX12_one 100 = .ok (.lcmp, 1) := by decide +kernel
theorem dX12_one_101 : decode cX12_one 101 = .ok (.ifCond .gt 7, 3) := by decide +kernel
theorem dX12_one_104 : decode cX12_one 104 = .ok (.lconst 1, 1) := by decide +kernel
theorem dX12_one_105 : decode cX12_one 105 = .ok (.goto 4, 3) := by decide +kernel
theorem dX12_one_108 : decode cX12_one 108 = .ok (.lconst 0, 1) := by decide +kernel
theorem dX12_one_109 : decode cX12_one 109 = .ok (.lreturn, 1) := by decide +kernel
theorem dX12_one_110 : decode cX12_one 110 = .ok (.lload_n 1, 1) := by decide +kernel
theorem dX12_one_111 : decode cX12_one 111 = .ok (.lload_n 3, 1) := by decide +kernel
theorem dX12_one_112 : decode cX12_one 112 = .ok (.lcmp, 1) := by decide +kernel
theorem dX12_one_113 : decode cX12_one 113 = .ok (.ifCond .ne 7, 3) := by decide +kernel
theorem dX12_one_116 : decode cX12_one 116 = .ok (.lconst 1, 1) := by decide +kernel
theorem dX12_one_117 : decode cX12_one 117 = .ok (.goto 4, 3) := by decide +kernel
theorem dX12_one_120 : decode cX12_one 120 = .ok (.lconst 0, 1) := by decide +kernel
theorem dX12_one_121 : decode cX12_one 121 = .ok (.lreturn, 1) := by decide +kernel
theorem dX12_one_122 : decode cX12_one 122 = .ok (.lload_n 1, 1) := by decide +kernel
theorem dX12_one_123 : decode cX12_one 123 = .ok (.lload_n 3, 1) := by decide +kernel
theorem dX12_one_124 : decode cX12_one 124 = .ok (.lcmp, 1) := by decide +kernel
theorem dX12_one_125 : decode cX12_one 125 = .ok (.ifCond .lt 7, 3) := by decide +kernel
theorem dX12_one_128 : decode cX12_one 128 = .ok (.lconst 1, 1) := by decide +kernel
theorem dX12_one_129 : decode cX12_one 129 = .ok (.goto 4, 3) := by decide +kernel
theorem dX12_one_132 : decode cX12_one 132 = .ok (.lconst 0, 1) := by decide +kernel
theorem dX12_one_133 : decode cX12_one 133 = .ok (.lreturn, 1) := by decide +kernel
theorem dX12_one_134 : decode cX12_one 134 = .ok (.lload_n 1, 1) := by decide +kernel
theorem dX12_one_135 : decode cX12_one 135 = .ok (.lload_n 3, 1) := by decide +kernel
theorem dX12_one_136 : decode cX12_one 136 = .ok (.lcmp, 1) := by decide +kernel
theorem dX12_one_137 : decode cX12_one 137 = .ok (.ifCond .le 7, 3) := by decide +kernel
theorem dX12_one_140 : decode cX12_one 140 = .ok (.lconst 1, 1) := by decide +kernel
theorem dX12_one_141 : decode cX12_one 141 = .ok (.goto 4, 3) := by decide +kernel
theorem dX12_one_144 : decode cX12_one 144 = .ok (.lconst 0, 1) := by decide +kernel
theorem dX12_one_145 : decode cX12_one 145 = .ok (.lreturn, 1) := by decide +kernel
theorem dX12_one_146 : decode cX12_one 146 = .ok (.lload_n 1, 1) := by decide +kernel
theorem dX12_one_147 : decode cX12_one 147 = .ok (.lload_n 3, 1) := by decide +kernel
theorem dX12_one_148 : decode cX12_one 148 = .ok (.land, 1) := by decide +kernel
theorem dX12_one_149 : decode cX12_one 149 = .ok (.lreturn, 1) := by decide +kernel
theorem dX12_one_150 : decode cX12_one 150 = .ok (.lload_n 1, 1) := by decide +kernel
theorem dX12_one_151 : decode cX12_one 151 = .ok (.lload_n 3, 1) := by decide +kernel
theorem dX12_one_152 : decode cX12_one 152 = .ok (.lor, 1) := by decide +kernel
theorem dX12_one_153 : decode cX12_one 153 = .ok (.lreturn, 1) := by decide +kernel
set_option maxRecDepth 20000 in
theorem ggX12_reckons_X12_push : GoodIn wsX12_reckons wsX12_push := goodIn_r _ [8, 9, 1, 17, 18, 19, 20, 21, 22, 23, 24, 25, 26, 27, 28, 29, 30, 31, 32, 33, 34, 35, 36, 37, 38, 39, 40, 41, 42, 43, 44, 45, 46, 47, 48, 49, 50, 51, 52, 53] (by decide +kernel) (by decide +kernel)
set_option maxRecDepth 20000 in
theorem gX12_reckons_X12_push : GoodIn wsX12_reckons (wsV RX12 265 RX12 yX12_push wsX12_push) := goodIn_app (goodIn_of _ (by decide +kernel)) ggX12_reckons_X12_push
set_option maxRecDepth 20000 in
theorem ggX12_reckons_X12_pop : GoodIn wsX12_reckons wsX12_pop := goodIn_r _ [13, 1, 9, 17, 18, 19, 20, 21, 22, 23, 24, 25, 26, 27, 28, 29, 30, 31, 32, 33, 34, 35, 36, 37, 38, 39, 40, 41, 42, 43, 44, 45, 46, 47, 48, 49, 50, 51, 52, 53] (by decide +kernel) (by decide +kernel)
set_option maxRecDepth 20000 in
theorem gX12_reckons_X12_pop : GoodIn wsX12_reckons (wsV RX12 269 RX12 yX12_pop wsX12_pop) := goodIn_app (goodIn_of _ (by decide +kernel)) ggX12_reckons_X12_pop
set_option maxRecDepth 20000 in
theorem ggX12_reckons_X12_one : GoodIn wsX12_reckons wsX12_one := goodIn_r _ [16] (by decide +kernel) (by decide +kernel)
set_option maxRecDepth 20000 in
theorem gX12_reckons_X12_one : GoodIn wsX12_reckons (va_wsS RX12 273 yX12_one wsX12_one) := goodIn_app (goodIn_of _ (by decide +kernel)) ggX12_reckons_X12_one
theorem dX12_reckons_0 : decode cX12_reckons 0 = .ok (.aload_n 0, 1) := by decide +kernel
theorem dX12_reckons_1 : decode cX12_reckons 1 = .ok (.iconst 0, 1) := by decide +kernel
theorem dX12_reckons_2 : decode cX12_reckons 2 = .ok (.putfield 262, 3) := by decide +kernel
theorem dX12_reckons_5 : decode cX12_reckons 5 = .ok (.iload_n 2, 1) := by decide +kernel
theorem dX12_reckons_6 : decode cX12_reckons 6 = .ok (.istore 4, 2) := by decide +kernel
theorem dX12_reckons_8 : decode cX12_reckons 8 = .ok (.iload 4, 2) := by decide +kernel
theorem dX12_reckons_10 : decode cX12_reckons 10 = .ok (.iload_n 3, 1) := by decide +kernel
theorem dX12_reckons_11 : decode cX12_reckons 11 = .ok (.if_icmp .ge 124, 3) := by decide +kernel
theorem dX12_reckons_14 : decode cX12_reckons 14 = .ok (.aload_n 0, 1) := by decide +kernel
theorem dX12_reckons_15 : decode cX12_reckons 15 = .ok (.getfield 13, 3) := by decide +kernel
theorem dX12_reckons_18 : decode cX12_reckons 18 = .ok (.sipush 400, 3) := by decide +kernel
theorem dX12_reckons_21 : decode cX12_reckons 21 = .ok (.iload_n 1, 1) := by decide +kernel
theorem dX12_reckons_22 : decode cX12_reckons 22 = .ok (.imul, 1) := by decide +kernel
theorem dX12_reckons_23 : decode cX12_reckons 23 = .ok (.iload 4, 2) := by decide +kernel
theorem dX12_reckons_25 : decode cX12_reckons 25 = .ok (.iadd, 1) := by decide +kernel
theorem dX12_reckons_26 : decode cX12_reckons 26 = .ok (.iaload, 1) := by decide +kernel
theorem dX12_reckons_27 : decode cX12_reckons 27 = .ok (.bipush 15, 2) := by decide +kernel
theorem dX12_reckons_29 : decode cX12_reckons 29 = .ok (.iand, 1) := by decide +kernel
theorem dX12_reckons_30 : decode cX12_reckons 30 = .ok (.istore 5, 2) := by decide +kernel
theorem dX12_reckons_32 : decode cX12_reckons 32 = .ok (.aload_n 0, 1) := by decide +kernel
theorem dX12_reckons_33 : decode cX12_reckons 33 = .ok (.getfield 13, 3) := by decide +kernel
theorem dX12_reckons_36 : decode cX12_reckons 36 = .ok (.sipush 400, 3) := by decide +kernel
theorem dX12_reckons_39 : decode cX12_reckons 39 = .ok (.iload_n 1, 1) := by decide +kernel
theorem dX12_reckons_40 : decode cX12_reckons 40 = .ok (.imul, 1) := by decide +kernel
theorem dX12_reckons_41 : decode cX12_reckons 41 = .ok (.iload 4, 2) := by decide +kernel
theorem dX12_reckons_43 : decode cX12_reckons 43 = .ok (.iadd, 1) := by decide +kernel
theorem dX12_reckons_44 : decode cX12_reckons 44 = .ok (.iaload, 1) := by decide +kernel
theorem dX12_reckons_45 : decode cX12_reckons 45 = .ok (.iconst 4, 1) := by decide +kernel
theorem dX12_reckons_46 : decode cX12_reckons 46 = .ok (.ishr, 1) := by decide +kernel
theorem dX12_reckons_47 : decode cX12_reckons 47 = .ok (.istore 6, 2) := by decide +kernel
theorem dX12_reckons_49 : decode cX12_reckons 49 = .ok (.iload 5, 2) := by decide +kernel
theorem dX12_reckons_51 : decode cX12_reckons 51 = .ok (.ifCond .ne 13, 3) := by decide +kernel
theorem dX12_reckons_54 : decode cX12_reckons 54 = .ok (.aload_n 0, 1) := by decide +kernel
theorem dX12_reckons_55 : decode cX12_reckons 55 = .ok (.iload 6, 2) := by decide +kernel
theorem dX12_reckons_57 : decode cX12_reckons 57 = .ok (.i2l, 1) := by decide +kernel
theorem dX12_reckons_58 : decode cX12_reckons 58 = .ok (.invokevirtual 265, 3) := by decide +kernel
theorem dX12_reckons_61 : decode cX12_reckons 61 = .ok (.goto 68, 3) := by decide +kernel
theorem dX12_reckons_64 : decode cX12_reckons 64 = .ok (.iload 5, 2) := by decide +kernel
theorem dX12_reckons_66 : decode cX12_reckons 66 = .ok (.iconst 1, 1) := by decide +kernel
theorem dX12_reckons_67 : decode cX12_reckons 67 = .ok (.if_icmp .ne 17, 3) := by decide +kernel
theorem dX12_reckons_70 : decode cX12_reckons 70 = .ok (.aload_n 0, 1) := by decide +kernel
theorem dX12_reckons_71 : decode cX12_reckons 71 = .ok (.aload_n 0, 1) := by decide +kernel
theorem dX12_reckons_72 : decode cX12_reckons 72 = .ok (.getfield 42, 3) := by decide +kernel
theorem dX12_reckons_75 : decode cX12_reckons 75 = .ok (.iload 6, 2) := by decide +kernel
theorem dX12_reckons_77 : decode cX12_reckons 77 = .ok (.laload, 1) := by decide +kernel
theorem dX12_reckons_78 : decode cX12_reckons 78 = .ok (.invokevirtual 265, 3) := by decide +kernel
theorem dX12_reckons_81 : decode cX12_reckons 81 = .ok (.goto 48, 3) := by decide +kernel
theorem dX12_reckons_84 : decode cX12_reckons 84 = .ok (.iload 5, 2) := by decide +kernel
theorem dX12_reckons_86 : decode cX12_reckons 86 = .ok (.bipush 11, 2) := by decide +kernel
theorem dX12_reckons_88 : decode cX12_reckons 88 = .ok (.if_icmp .ne 16, 3) := by decide +kernel
theorem dX12_reckons_91 : decode cX12_reckons 91 = .ok (.aload_n 0, 1) := by decide +kernel
theorem dX12_reckons_92 : decode cX12_reckons 92 = .ok (.lconst 1, 1) := by decide +kernel
theorem dX12_reckons_93 : decode cX12_reckons 93 = .ok (.aload_n 0, 1) := by decide +kernel
theorem dX12_reckons_94 : decode cX12_reckons 94 = .ok (.invokevirtual 269, 3) := by decide +kernel
theorem dX12_reckons_97 : decode cX12_reckons 97 = .ok (.lsub, 1) := by decide +kernel
theorem dX12_reckons_98 : decode cX12_reckons 98 = .ok (.invokevirtual 265, 3) := by decide +kernel
theorem dX12_reckons_101 : decode cX12_reckons 101 = .ok (.goto 28, 3) := by decide +kernel
theorem dX12_reckons_104 : decode cX12_reckons 104 = .ok (.aload_n 0, 1) := by decide +kernel
theorem dX12_reckons_105 : decode cX12_reckons 105 = .ok (.invokevirtual 269, 3) := by decide +kernel
theorem dX12_reckons_108 : decode cX12_reckons 108 = .ok (.lstore 7, 2) := by decide +kernel
theorem dX12_reckons_110 : decode cX12_reckons 110 = .ok (.aload_n 0, 1) := by decide +kernel
theorem dX12_reckons_111 : decode cX12_reckons 111 = .ok (.invokevirtual 269, 3) := by decide +kernel
theorem dX12_reckons_114 : decode cX12_reckons 114 = .ok (.lstore 9, 2) := by decide +kernel
theorem dX12_reckons_116 : decode cX12_reckons 116 = .ok (.aload_n 0, 1) := by decide +kernel
theorem dX12_reckons_117 : decode cX12_reckons 117 = .ok (.iload 5, 2) := by decide +kernel
theorem dX12_reckons_119 : decode cX12_reckons 119 = .ok (.lload 9, 2) := by decide +kernel
theorem dX12_reckons_121 : decode cX12_reckons 121 = .ok (.lload 7, 2) := by decide +kernel
theorem dX12_reckons_123 : decode cX12_reckons 123 = .ok (.invokestatic 273, 3) := by decide +kernel
theorem dX12_reckons_126 : decode cX12_reckons 126 = .ok (.invokevirtual 265, 3) := by decide +kernel
theorem dX12_reckons_129 : decode cX12_reckons 129 = .ok (.iinc 4 1, 3) := by decide +kernel
theorem dX12_reckons_132 : decode cX12_reckons 132 = .ok (.goto (-124), 3) := by decide +kernel
theorem dX12_reckons_135 : decode cX12_reckons 135 = .ok (.aload_n 0, 1) := by decide +kernel
theorem dX12_reckons_136 : decode cX12_reckons 136 = .ok (.invokevirtual 269, 3) := by decide +kernel
theorem dX12_reckons_139 : decode cX12_reckons 139 = .ok (.lreturn, 1) := by decide +kernel
theorem dX12_isCorner_0 : decode cX12_isCorner 0 = .ok (.aload_n 0, 1) := by decide +kernel
theorem dX12_isCorner_1 : decode cX12_isCorner 1 = .ok (.getfield 45, 3) := by decide +kernel
theorem dX12_isCorner_4 : decode cX12_isCorner 4 = .ok (.iconst 0, 1) := by decide +kernel
theorem dX12_isCorner_5 : decode cX12_isCorner 5 = .ok (.iaload, 1) := by decide +kernel
theorem dX12_isCorner_6 : decode cX12_isCorner 6 = .ok (.ifCond .le 7, 3) := by decide +kernel
theorem dX12_isCorner_9 : decode cX12_isCorner 9 = .ok (.iconst 1, 1) := by decide +kernel
theorem dX12_isCorner_10 : decode cX12_isCorner 10 = .ok (.goto 4, 3) := by decide +kernel
theorem dX12_isCorner_13 : decode cX12_isCorner 13 = .ok (.iconst 0, 1) := by decide +kernel
theorem dX12_isCorner_14 : decode cX12_isCorner 14 = .ok (.ireturn, 1) := by decide +kernel
theorem dX12_goesOn_0 : decode cX12_goesOn 0 = .ok (.aload_n 0, 1) := by decide +kernel
theorem dX12_goesOn_1 : decode cX12_goesOn 1 = .ok (.getfield 45, 3) := by decide +kernel
theorem dX12_goesOn_4 : decode cX12_goesOn 4 = .ok (.iconst 3, 1) := by decide +kernel
theorem dX12_goesOn_5 : decode cX12_goesOn 5 = .ok (.iaload, 1) := by decide +kernel
theorem dX12_goesOn_6 : decode cX12_goesOn 6 = .ok (.iconst 1, 1) := by decide +kernel
theorem dX12_goesOn_7 : decode cX12_goesOn 7 = .ok (.if_icmp .ne 7, 3) := by decide +kernel
theorem dX12_goesOn_10 : decode cX12_goesOn 10 = .ok (.iconst 1, 1) := by decide +kernel
theorem dX12_goesOn_11 : decode cX12_goesOn 11 = .ok (.goto 4, 3) := by decide +kernel
theorem dX12_goesOn_14 : decode cX12_goesOn 14 = .ok (.iconst 0, 1) := by decide +kernel
theorem dX12_goesOn_15 : decode cX12_goesOn 15 = .ok (.ireturn, 1) := by decide +kernel
theorem dX12_isSide_0 : decode cX12_isSide 0 = .ok (.iload_n 0, 1) := by decide +kernel
theorem dX12_isSide_1 : decode cX12_isSide 1 = .ok (.ifCond .eq 8, 3) := by decide +kernel
theorem dX12_isSide_4 : decode cX12_isSide 4 = .ok (.iload_n 0, 1) := by decide +kernel
theorem dX12_isSide_5 : decode cX12_isSide 5 = .ok (.iconst 1, 1) := by decide +kernel
theorem dX12_isSide_6 : decode cX12_isSide 6 = .ok (.if_icmp .ne 7, 3) := by decide +kernel
theorem dX12_isSide_9 : decode cX12_isSide 9 = .ok (.iconst 1, 1) := by decide +kernel
theorem dX12_isSide_10 : decode cX12_isSide 10 = .ok (.goto 4, 3) := by decide +kernel
theorem dX12_isSide_13 : decode cX12_isSide 13 = .ok (.iconst 0, 1) := by decide +kernel
theorem dX12_isSide_14 : decode cX12_isSide 14 = .ok (.ireturn, 1) := by decide +kernel
theorem dX12_verseOf_0 : decode cX12_verseOf 0 = .ok (.aload_n 0, 1) := by decide +kernel
theorem dX12_verseOf_1 : decode cX12_verseOf 1 = .ok (.getfield 45, 3) := by decide +kernel
theorem dX12_verseOf_4 : decode cX12_verseOf 4 = .ok (.bipush 20, 2) := by decide +kernel
theorem dX12_verseOf_6 : decode cX12_verseOf 6 = .ok (.iconst 2, 1) := by decide +kernel
theorem dX12_verseOf_7 : decode cX12_verseOf 7 = .ok (.iload_n 1, 1) := by decide +kernel
theorem dX12_verseOf_8 : decode cX12_verseOf 8 = .ok (.imul, 1) := by decide +kernel
theorem dX12_verseOf_9 : decode cX12_verseOf 9 = .ok (.iadd, 1) := by decide +kernel
theorem dX12_verseOf_10 : decode cX12_verseOf 10 = .ok (.iaload, 1) := by decide +kernel
theorem dX12_verseOf_11 : decode cX12_verseOf 11 = .ok (.aload_n 0, 1) := by decide +kernel
theorem dX12_verseOf_12 : decode cX12_verseOf 12 = .ok (.getfield 45, 3) := by decide +kernel
theorem dX12_verseOf_15 : decode cX12_verseOf 15 = .ok (.bipush 20, 2) := by decide +kernel
theorem dX12_verseOf_17 : decode cX12_verseOf 17 = .ok (.iconst 2, 1) := by decide +kernel
theorem dX12_verseOf_18 : decode cX12_verseOf 18 = .ok (.iload_n 1, 1) := by decide +kernel
theorem dX12_verseOf_19 : decode cX12_verseOf 19 = .ok (.imul, 1) := by decide +kernel
theorem dX12_verseOf_20 : decode cX12_verseOf 20 = .ok (.iadd, 1) := by decide +kernel
theorem dX12_verseOf_21 : decode cX12_verseOf 21 = .ok (.iconst 1, 1) := by decide +kernel
theorem dX12_verseOf_22 : decode cX12_verseOf 22 = .ok (.iadd, 1) := by decide +kernel
theorem dX12_verseOf_23 : decode cX12_verseOf 23 = .ok (.iaload, 1) := by decide +kernel
theorem dX12_verseOf_24 : decode cX12_verseOf 24 = .ok (.imul, 1) := by decide +kernel
theorem dX12_verseOf_25 : decode cX12_verseOf 25 = .ok (.ireturn, 1) := by decide +kernel
theorem dX12_canSay_0 : decode cX12_canSay 0 = .ok (.iload_n 1, 1) := by decide +kernel
theorem dX12_canSay_1 : decode cX12_canSay 1 = .ok (.aload_n 0, 1) := by decide +kernel
theorem dX12_canSay_2 : decode cX12_canSay 2 = .ok (.getfield 45, 3) := by decide +kernel
theorem dX12_canSay_5 : decode cX12_canSay 5 = .ok (.iconst 1, 1) := by decide +kernel
theorem dX12_canSay_6 : decode cX12_canSay 6 = .ok (.iaload, 1) := by decide +kernel
theorem dX12_canSay_7 : decode cX12_canSay 7 = .ok (.if_icmp .ge 55, 3) := by decide +kernel
theorem dX12_canSay_10 : decode cX12_canSay 10 = .ok (.aload_n 0, 1) := by decide +kernel
theorem dX12_canSay_11 : decode cX12_canSay 11 = .ok (.getfield 45, 3) := by decide +kernel
theorem dX12_canSay_14 : decode cX12_canSay 14 = .ok (.bipush 28, 2) := by decide +kernel
theorem dX12_canSay_16 : decode cX12_canSay 16 = .ok (.iload_n 1, 1) := by decide +kernel
theorem dX12_canSay_17 : decode cX12_canSay 17 = .ok (.iadd, 1) := by decide +kernel
theorem dX12_canSay_18 : decode cX12_canSay 18 = .ok (.iaload, 1) := by decide +kernel
theorem dX12_canSay_19 : decode cX12_canSay 19 = .ok (.aload_n 0, 1) := by decide +kernel
theorem dX12_canSay_20 : decode cX12_canSay 20 = .ok (.getfield 45, 3) := by decide +kernel
theorem dX12_canSay_23 : decode cX12_canSay 23 = .ok (.bipush 14, 2) := by decide +kernel
theorem dX12_canSay_25 : decode cX12_canSay 25 = .ok (.aload_n 0, 1) := by decide +kernel
theorem dX12_canSay_26 : decode cX12_canSay 26 = .ok (.getfield 45, 3) := by decide +kernel
theorem dX12_canSay_29 : decode cX12_canSay 29 = .ok (.bipush 6, 2) := by decide +kernel
theorem dX12_canSay_31 : decode cX12_canSay 31 = .ok (.iaload, 1) := by decide +kernel
theorem dX12_canSay_32 : decode cX12_canSay 32 = .ok (.iadd, 1) := by decide +kernel
theorem dX12_canSay_33 : decode cX12_canSay 33 = .ok (.iaload, 1) := by decide +kernel
theorem dX12_canSay_34 : decode cX12_canSay 34 = .ok (.iload_n 1, 1) := by decide +kernel
theorem dX12_canSay_35 : decode cX12_canSay 35 = .ok (.if_icmp .ne 12, 3) := by decide +kernel
theorem dX12_canSay_38 : decode cX12_canSay 38 = .ok (.aload_n 0, 1) := by decide +kernel
theorem dX12_canSay_39 : decode cX12_canSay 39 = .ok (.getfield 45, 3) := by decide +kernel
theorem dX12_canSay_42 : decode cX12_canSay 42 = .ok (.iconst 2, 1) := by decide +kernel
theorem dX12_canSay_43 : decode cX12_canSay 43 = .ok (.iaload, 1) := by decide +kernel
theorem dX12_canSay_44 : decode cX12_canSay 44 = .ok (.goto 4, 3) := by decide +kernel
theorem dX12_canSay_47 : decode cX12_canSay 47 = .ok (.iconst 0, 1) := by decide +kernel
theorem dX12_canSay_48 : decode cX12_canSay 48 = .ok (.iadd, 1) := by decide +kernel
theorem dX12_canSay_49 : decode cX12_canSay 49 = .ok (.aload_n 0, 1) := by decide +kernel
theorem dX12_canSay_50 : decode cX12_canSay 50 = .ok (.getfield 45, 3) := by decide +kernel
theorem dX12_canSay_53 : decode cX12_canSay 53 = .ok (.iconst 5, 1) := by decide +kernel
theorem dX12_canSay_54 : decode cX12_canSay 54 = .ok (.iaload, 1) := by decide +kernel
theorem dX12_canSay_55 : decode cX12_canSay 55 = .ok (.if_icmp .gt 7, 3) := by decide +kernel
theorem dX12_canSay_58 : decode cX12_canSay 58 = .ok (.iconst 1, 1) := by decide +kernel
theorem dX12_canSay_59 : decode cX12_canSay 59 = .ok (.goto 4, 3) := by decide +kernel
theorem dX12_canSay_62 : decode cX12_canSay 62 = .ok (.iconst 0, 1) := by decide +kernel
theorem dX12_canSay_63 : decode cX12_canSay 63 = .ok (.ireturn, 1) := by decide +kernel
theorem dX12_canThrow_0 : decode cX12_canThrow 0 = .ok (.aload_n 0, 1) := by decide +kernel
theorem dX12_canThrow_1 : decode cX12_canThrow 1 = .ok (.getfield 45, 3) := by decide +kernel
theorem dX12_canThrow_4 : decode cX12_canThrow 4 = .ok (.bipush 12, 2) := by decide +kernel
theorem dX12_canThrow_6 : decode cX12_canThrow 6 = .ok (.aload_n 0, 1) := by decide +kernel
theorem dX12_canThrow_7 : decode cX12_canThrow 7 = .ok (.getfield 45, 3) := by decide +kernel
theorem dX12_canThrow_10 : decode cX12_canThrow 10 = .ok (.bipush 6, 2) := by decide +kernel
theorem dX12_canThrow_12 : decode cX12_canThrow 12 = .ok (.iaload, 1) := by decide +kernel
theorem dX12_canThrow_13 : decode cX12_canThrow 13 = .ok (.iadd, 1) := by decide +kernel
theorem dX12_canThrow_14 : decode cX12_canThrow 14 = .ok (.iaload, 1) := by decide +kernel
theorem dX12_canThrow_15 : decode cX12_canThrow 15 = .ok (.ifCond .le 26, 3) := by decide +kernel
theorem dX12_canThrow_18 : decode cX12_canThrow 18 = .ok (.aload_n 0, 1) := by decide +kernel
theorem dX12_canThrow_19 : decode cX12_canThrow 19 = .ok (.getfield 45, 3) := by decide +kernel
theorem dX12_canThrow_22 : decode cX12_canThrow 22 = .ok (.iconst 5, 1) := by decide +kernel
theorem dX12_canThrow_23 : decode cX12_canThrow 23 = .ok (.iaload, 1) := by decide +kernel
theorem dX12_canThrow_24 : decode cX12_canThrow 24 = .ok (.aload_n 0, 1) := by decide +kernel
theorem dX12_canThrow_25 : decode cX12_canThrow 25 = .ok (.getfield 45, 3) := by decide +kernel
theorem dX12_canThrow_28 : decode cX12_canThrow 28 = .ok (.iconst 4, 1) := by decide +kernel
theorem dX12_canThrow_29 : decode cX12_canThrow 29 = .ok (.iaload, 1) := by decide +kernel
theorem dX12_canThrow_30 : decode cX12_canThrow 30 = .ok (.iadd, 1) := by decide +kernel
theorem dX12_canThrow_31 : decode cX12_canThrow 31 = .ok (.sipush 200, 3) := by decide +kernel
theorem dX12_canThrow_34 : decode cX12_canThrow 34 = .ok (.if_icmp .gt 7, 3) := by decide +kernel
theorem dX12_canThrow_37 : decode cX12_canThrow 37 = .ok (.iconst 1, 1) := by decide +kernel
theorem dX12_canThrow_38 : decode cX12_canThrow 38 = .ok (.goto 4, 3) := by decide +kernel
theorem dX12_canThrow_41 : decode cX12_canThrow 41 = .ok (.iconst 0, 1) := by decide +kernel
theorem dX12_canThrow_42 : decode cX12_canThrow 42 = .ok (.ireturn, 1) := by decide +kernel
set_option maxRecDepth 20000 in
theorem ggX12_canDo_X12_canSay : GoodIn wsX12_canDo wsX12_canSay := goodIn_r _ [6, 1, 11, 12, 13, 14, 15, 16, 17, 18, 19, 20, 21, 22, 23, 24, 25, 26, 27, 28, 29, 30, 31, 32, 33, 34, 35, 36, 37, 38, 39, 40, 41, 42, 43, 44, 45, 46, 47] (by decide +kernel) (by decide +kernel)
set_option maxRecDepth 20000 in
theorem gX12_canDo_X12_canSay : GoodIn wsX12_canDo (wsV RX12 277 RX12 yX12_canSay wsX12_canSay) := goodIn_app (goodIn_of _ (by decide +kernel)) ggX12_canDo_X12_canSay
set_option maxRecDepth 20000 in
theorem ggX12_canDo_X12_canThrow : GoodIn wsX12_canDo wsX12_canThrow := goodIn_r _ [10, 1, 11, 12, 13, 14, 15, 16, 17, 18, 19, 20, 21, 22, 23, 24, 25, 26, 27, 28, 29, 30, 31, 32, 33, 34, 35, 36, 37, 38, 39, 40, 41, 42, 43, 44, 45, 46, 47] (by decide +kernel) (by decide +kernel)
set_option maxRecDepth 20000 in
theorem gX12_canDo_X12_canThrow : GoodIn wsX12_canDo (wsV RX12 280 RX12 yX12_canThrow wsX12_canThrow) := goodIn_app (goodIn_of _ (by decide +kernel)) ggX12_canDo_X12_canThrow
theorem dX12_canDo_0 : decode cX12_canDo 0 = .ok (.iconst 0, 1) := by decide +kernel
theorem dX12_canDo_1 : decode cX12_canDo 1 = .ok (.istore_n 1, 1) := by decide +kernel
theorem dX12_canDo_2 : decode cX12_canDo 2 = .ok (.iload_n 1, 1) := by decide +kernel
theorem dX12_canDo_3 : decode cX12_canDo 3 = .ok (.aload_n 0, 1) := by decide +kernel
theorem dX12_canDo_4 : decode cX12_canDo 4 = .ok (.getfield 45, 3) := by decide +kernel
theorem dX12_canDo_7 : decode cX12_canDo 7 = .ok (.iconst 1, 1) := by decide +kernel
theorem dX12_canDo_8 : decode cX12_canDo 8 = .ok (.iaload, 1) := by decide +kernel
theorem dX12_canDo_9 : decode cX12_canDo 9 = .ok (.if_icmp .ge 19, 3) := by decide +kernel
theorem dX12_canDo_12 : decode cX12_canDo 12 = .ok (.aload_n 0, 1) := by decide +kernel
theorem dX12_canDo_13 : decode cX12_canDo 13 = .ok (.iload_n 1, 1) := by decide +kernel
theorem dX12_canDo_14 : decode cX12_canDo 14 = .ok (.invokevirtual 277, 3) := by decide +kernel
theorem dX12_canDo_17 : decode cX12_canDo 17 = .ok (.ifCond .eq 5, 3) := by decide +kernel
theorem dX12_canDo_20 : decode cX12_canDo 20 = .ok (.iconst 1, 1) := by decide +kernel
theorem dX12_canDo_21 : decode cX12_canDo 21 = .ok (.ireturn, 1) := by decide +kernel
theorem dX12_canDo_22 : decode cX12_canDo 22 = .ok (.iinc 1 1, 3) := by decide +kernel
theorem dX12_canDo_25 : decode cX12_canDo 25 = .ok (.goto (-23), 3) := by decide +kernel
theorem dX12_canDo_28 : decode cX12_canDo 28 = .ok (.aload_n 0, 1) := by decide +kernel
theorem dX12_canDo_29 : decode cX12_canDo 29 = .ok (.invokevirtual 280, 3) := by decide +kernel
theorem dX12_canDo_32 : decode cX12_canDo 32 = .ok (.ireturn, 1) := by decide +kernel
