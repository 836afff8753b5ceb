theorem dX0_init_0 : decode cX0_init 0 = .ok (.aload_n 0, 1) := by decide +kernel
theorem dX0_init_1 : decode cX0_init 1 = .ok (.invokespecial 3, 3) := by decide +kernel
theorem dX0_init_4 : decode cX0_init 4 = .ok (.aload_n 0, 1) := by decide +kernel
theorem dX0_init_5 : decode cX0_init 5 = .ok (.bipush 15, 2) := by decide +kernel
theorem dX0_init_7 : decode cX0_init 7 = .ok (.newarray .long, 2) := by decide +kernel
theorem dX0_init_9 : decode cX0_init 9 = .ok (.putfield 11, 3) := by decide +kernel
theorem dX0_init_12 : decode cX0_init 12 = .ok (.aload_n 0, 1) := by decide +kernel
theorem dX0_init_13 : decode cX0_init 13 = .ok (.sipush 800, 3) := by decide +kernel
theorem dX0_init_16 : decode cX0_init 16 = .ok (.newarray .long, 2) := by decide +kernel
theorem dX0_init_18 : decode cX0_init 18 = .ok (.putfield 15, 3) := by decide +kernel
theorem dX0_init_21 : decode cX0_init 21 = .ok (.aload_n 0, 1) := by decide +kernel
theorem dX0_init_22 : decode cX0_init 22 = .ok (.iconst 4, 1) := by decide +kernel
theorem dX0_init_23 : decode cX0_init 23 = .ok (.newarray .int, 2) := by decide +kernel
theorem dX0_init_25 : decode cX0_init 25 = .ok (.putfield 18, 3) := by decide +kernel
theorem dX0_init_28 : decode cX0_init 28 = .ok (.aload_n 0, 1) := by decide +kernel
theorem dX0_init_29 : decode cX0_init 29 = .ok (.iconst 4, 1) := by decide +kernel
theorem dX0_init_30 : decode cX0_init 30 = .ok (.newarray .long, 2) := by decide +kernel
theorem dX0_init_32 : decode cX0_init 32 = .ok (.putfield 22, 3) := by decide +kernel
theorem dX0_init_35 : decode cX0_init 35 = .ok (.iconst 0, 1) := by decide +kernel
theorem dX0_init_36 : decode cX0_init 36 = .ok (.istore_n 1, 1) := by decide +kernel
theorem dX0_init_37 : decode cX0_init 37 = .ok (.iload_n 1, 1) := by decide +kernel
theorem dX0_init_38 : decode cX0_init 38 = .ok (.bipush 64, 2) := by decide +kernel
theorem dX0_init_40 : decode cX0_init 40 = .ok (.if_icmp .ge 43, 3) := by decide +kernel
theorem dX0_init_43 : decode cX0_init 43 = .ok (.iload_n 1, 1) := by decide +kernel
theorem dX0_init_44 : decode cX0_init 44 = .ok (.bipush 8, 2) := by decide +kernel
theorem dX0_init_46 : decode cX0_init 46 = .ok (.idiv, 1) := by decide +kernel
theorem dX0_init_47 : decode cX0_init 47 = .ok (.iload_n 1, 1) := by decide +kernel
theorem dX0_init_48 : decode cX0_init 48 = .ok (.bipush 8, 2) := by decide +kernel
theorem dX0_init_50 : decode cX0_init 50 = .ok (.irem, 1) := by decide +kernel
theorem dX0_init_51 : decode cX0_init 51 = .ok (.iadd, 1) := by decide +kernel
theorem dX0_init_52 : decode cX0_init 52 = .ok (.istore_n 2, 1) := by decide +kernel
theorem dX0_init_53 : decode cX0_init 53 = .ok (.iload_n 2, 1) := by decide +kernel
theorem dX0_init_54 : decode cX0_init 54 = .ok (.bipush 14, 2) := by decide +kernel
theorem dX0_init_56 : decode cX0_init 56 = .ok (.if_icmp .gt 21, 3) := by decide +kernel
theorem dX0_init_59 : decode cX0_init 59 = .ok (.aload_n 0, 1) := by decide +kernel
theorem dX0_init_60 : decode cX0_init 60 = .ok (.getfield 11, 3) := by decide +kernel
theorem dX0_init_63 : decode cX0_init 63 = .ok (.iload_n 2, 1) := by decide +kernel
theorem dX0_init_64 : decode cX0_init 64 = .ok (.dup2, 1) := by decide +kernel
theorem dX0_init_65 : decode cX0_init 65 = .ok (.laload, 1) := by decide +kernel
theorem dX0_init_66 : decode cX0_init 66 = .ok (.lconst 1, 1) := by decide +kernel
theorem dX0_init_67 : decode cX0_init 67 = .ok (.iload_n 1, 1) := by decide +kernel
theorem dX0_init_68 : decode cX0_init 68 = .ok (.lshl, 1) := by decide +kernel
theorem dX0_init_69 : decode cX0_init 69 = .ok (.lor, 1) := by decide +kernel
theorem dX0_init_70 : decode cX0_init 70 = .ok (.lastore, 1) := by decide +kernel
theorem dX0_init_71 : decode cX0_init 71 = .ok (.iinc 2 1, 3) := by decide +kernel
theorem dX0_init_74 : decode cX0_init 74 = .ok (.goto (-21), 3) := by decide +kernel
theorem dX0_init_77 : decode cX0_init 77 = .ok (.iinc 1 1, 3) := by decide +kernel
theorem dX0_init_80 : decode cX0_init 80 = .ok (.goto (-43), 3) := by decide +kernel
theorem dX0_init_83 : decode cX0_init 83 = .ok (.return_, 1) := by decide +kernel
theorem dX0_holds_0 : decode cX0_holds 0 = .ok (.lload_n 0, 1) := by decide +kernel
theorem dX0_holds_1 : decode cX0_holds 1 = .ok (.bipush 8, 2) := by decide +kernel
theorem dX0_holds_3 : decode cX0_holds 3 = .ok (.iload_n 3, 1) := by decide +kernel
theorem dX0_holds_4 : decode cX0_holds 4 = .ok (.imul, 1) := by decide +kernel
theorem dX0_holds_5 : decode cX0_holds 5 = .ok (.iload_n 2, 1) := by decide +kernel
theorem dX0_holds_6 : decode cX0_holds 6 = .ok (.iadd, 1) := by decide +kernel
theorem dX0_holds_7 : decode cX0_holds 7 = .ok (.lushr, 1) := by decide +kernel
theorem dX0_holds_8 : decode cX0_holds 8 = .ok (.lconst 1, 1) := by decide +kernel
theorem dX0_holds_9 : decode cX0_holds 9 = .ok (.land, 1) := by decide +kernel
theorem dX0_holds_10 : decode cX0_holds 10 = .ok (.lconst 0, 1) := by decide +kernel
theorem dX0_holds_11 : decode cX0_holds 11 = .ok (.lcmp, 1) := by decide +kernel
theorem dX0_holds_12 : decode cX0_holds 12 = .ok (.ifCond .eq 7, 3) := by decide +kernel
theorem dX0_holds_15 : decode cX0_holds 15 = .ok (.iconst 1, 1) := by decide +kernel
theorem dX0_holds_16 : decode cX0_holds 16 = .ok (.goto 4, 3) := by decide +kernel
theorem dX0_holds_19 : decode cX0_holds 19 = .ok (.iconst 0, 1) := by decide +kernel
theorem dX0_holds_20 : decode cX0_holds 20 = .ok (.ireturn, 1) := by decide +kernel
set_option maxRecDepth 20000 in
theorem ggX0_winners_X0_prepare : GoodIn wsX0_winners wsX0_prepare := goodIn_r _ [7, 8, 9, 10, 11, 12, 1, 13, 14, 15, 16, 17, 18, 19, 20, 21, 78, 79, 80, 81, 82, 83, 84, 85, 86, 87, 88, 89, 90, 91, 92, 93, 94] (by decide +kernel) (by decide +kernel)
set_option maxRecDepth 20000 in
theorem gX0_winners_X0_prepare : GoodIn wsX0_winners (wsV RX0 25 RX0 yX0_prepare wsX0_prepare) := goodIn_app (goodIn_of _ (by decide +kernel)) ggX0_winners_X0_prepare
set_option maxRecDepth 20000 in
theorem ggX0_winners_X0_fillSum : GoodIn wsX0_winners wsX0_fillSum := goodIn_r _ [25, 1, 2, 21, 18, 26, 27, 28, 29, 6, 30, 31, 32, 33, 34, 35, 36, 37, 38, 39, 40, 8, 14, 41, 42, 43, 44, 45, 46, 47, 48, 49, 50, 51, 52, 53, 54, 55, 56, 57, 58, 59, 60, 61, 62, 63, 64, 65, 66, 67, 68, 69, 70, 71, 72, 73, 78, 79, 80, 81, 82, 83, 84, 85, 86, 87, 88, 89, 90, 91, 92, 93, 94] (by decide +kernel) (by decide +kernel)
set_option maxRecDepth 20000 in
theorem gX0_winners_X0_fillSum : GoodIn wsX0_winners (wsV RX0 33 RX0 yX0_fillSum wsX0_fillSum) := goodIn_app (goodIn_of _ (by decide +kernel)) ggX0_winners_X0_fillSum
set_option maxRecDepth 20000 in
theorem ggX0_winners_X0_winnersOf : GoodIn wsX0_winners wsX0_winnersOf := goodIn_r _ [77, 26, 19, 20, 2, 55, 56, 6, 57, 68, 69, 70, 71, 72, 73, 78, 79, 80, 81, 82, 83, 84, 85, 86, 87, 88] (by decide +kernel) (by decide +kernel)
set_option maxRecDepth 20000 in
theorem gX0_winners_X0_winnersOf : GoodIn wsX0_winners (wsV RX0 37 RX0 yX0_winnersOf wsX0_winnersOf) := goodIn_app (goodIn_of _ (by decide +kernel)) ggX0_winners_X0_winnersOf
set_option maxRecDepth 20000 in
theorem ggX0_winners_X0_purses : GoodIn wsX0_winners wsX0_purses := goodIn_r _ [30, 31, 78, 79, 80, 81, 82, 83, 84, 85, 86, 87, 88] (by decide +kernel) (by decide +kernel)
set_option maxRecDepth 20000 in
theorem gX0_winners_X0_purses : GoodIn wsX0_winners (wsV RX0 41 RX0 yX0_purses wsX0_purses) := goodIn_app (goodIn_of _ (by decide +kernel)) ggX0_winners_X0_purses
theorem dX0_winners_0 : decode cX0_winners 0 = .ok (.aload_n 0, 1) := by decide +kernel
theorem dX0_winners_1 : decode cX0_winners 1 = .ok (.aload_n 1, 1) := by decide +kernel
theorem dX0_winners_2 : decode cX0_winners 2 = .ok (.iload_n 2, 1) := by decide +kernel
theorem dX0_winners_3 : decode cX0_winners 3 = .ok (.iload 4, 2) := by decide +kernel
theorem dX0_winners_5 : decode cX0_winners 5 = .ok (.invokevirtual 25, 3) := by decide +kernel
theorem dX0_winners_8 : decode cX0_winners 8 = .ok (.lconst 0, 1) := by decide +kernel
theorem dX0_winners_9 : decode cX0_winners 9 = .ok (.lstore 6, 2) := by decide +kernel
theorem dX0_winners_11 : decode cX0_winners 11 = .ok (.iconst 0, 1) := by decide +kernel
theorem dX0_winners_12 : decode cX0_winners 12 = .ok (.istore 8, 2) := by decide +kernel
theorem dX0_winners_14 : decode cX0_winners 14 = .ok (.iload 8, 2) := by decide +kernel
theorem dX0_winners_16 : decode cX0_winners 16 = .ok (.iload_n 3, 1) := by decide +kernel
theorem dX0_winners_17 : decode cX0_winners 17 = .ok (.aload_n 0, 1) := by decide +kernel
theorem dX0_winners_18 : decode cX0_winners 18 = .ok (.getfield 29, 3) := by decide +kernel
theorem dX0_winners_21 : decode cX0_winners 21 = .ok (.iload 5, 2) := by decide +kernel
theorem dX0_winners_23 : decode cX0_winners 23 = .ok (.imul, 1) := by decide +kernel
theorem dX0_winners_24 : decode cX0_winners 24 = .ok (.iadd, 1) := by decide +kernel
theorem dX0_winners_25 : decode cX0_winners 25 = .ok (.if_icmp .gt 75, 3) := by decide +kernel
theorem dX0_winners_28 : decode cX0_winners 28 = .ok (.aload_n 0, 1) := by decide +kernel
theorem dX0_winners_29 : decode cX0_winners 29 = .ok (.iload 8, 2) := by decide +kernel
theorem dX0_winners_31 : decode cX0_winners 31 = .ok (.invokevirtual 33, 3) := by decide +kernel
theorem dX0_winners_34 : decode cX0_winners 34 = .ok (.iload 8, 2) := by decide +kernel
theorem dX0_winners_36 : decode cX0_winners 36 = .ok (.iload_n 3, 1) := by decide +kernel
theorem dX0_winners_37 : decode cX0_winners 37 = .ok (.if_icmp .lt 57, 3) := by decide +kernel
theorem dX0_winners_40 : decode cX0_winners 40 = .ok (.iload 8, 2) := by decide +kernel
theorem dX0_winners_42 : decode cX0_winners 42 = .ok (.iload_n 3, 1) := by decide +kernel
theorem dX0_winners_43 : decode cX0_winners 43 = .ok (.isub, 1) := by decide +kernel
theorem dX0_winners_44 : decode cX0_winners 44 = .ok (.aload_n 0, 1) := by decide +kernel
theorem dX0_winners_45 : decode cX0_winners 45 = .ok (.getfield 29, 3) := by decide +kernel
theorem dX0_winners_48 : decode cX0_winners 48 = .ok (.irem, 1) := by decide +kernel
theorem dX0_winners_49 : decode cX0_winners 49 = .ok (.ifCond .ne 45, 3) := by decide +kernel
theorem dX0_winners_52 : decode cX0_winners 52 = .ok (.iload 8, 2) := by decide +kernel
theorem dX0_winners_54 : decode cX0_winners 54 = .ok (.iload_n 3, 1) := by decide +kernel
theorem dX0_winners_55 : decode cX0_winners 55 = .ok (.isub, 1) := by decide +kernel
theorem dX0_winners_56 : decode cX0_winners 56 = .ok (.aload_n 0, 1) := by decide +kernel
theorem dX0_winners_57 : decode cX0_winners 57 = .ok (.getfield 29, 3) := by decide +kernel
theorem dX0_winners_60 : decode cX0_winners 60 = .ok (.idiv, 1) := by decide +kernel
theorem dX0_winners_61 : decode cX0_winners 61 = .ok (.istore 9, 2) := by decide +kernel
theorem dX0_winners_63 : decode cX0_winners 63 = .ok (.lload 6, 2) := by decide +kernel
theorem dX0_winners_65 : decode cX0_winners 65 = .ok (.aload_n 0, 1) := by decide +kernel
theorem dX0_winners_66 : decode cX0_winners 66 = .ok (.iload 8, 2) := by decide +kernel
theorem dX0_winners_68 : decode cX0_winners 68 = .ok (.invokevirtual 37, 3) := by decide +kernel
theorem dX0_winners_71 : decode cX0_winners 71 = .ok (.aload_n 0, 1) := by decide +kernel
theorem dX0_winners_72 : decode cX0_winners 72 = .ok (.iload 9, 2) := by decide +kernel
theorem dX0_winners_74 : decode cX0_winners 74 = .ok (.invokevirtual 41, 3) := by decide +kernel
theorem dX0_winners_77 : decode cX0_winners 77 = .ok (.land, 1) := by decide +kernel
theorem dX0_winners_78 : decode cX0_winners 78 = .ok (.aload_n 0, 1) := by decide +kernel
theorem dX0_winners_79 : decode cX0_winners 79 = .ok (.iload 9, 2) := by decide +kernel
theorem dX0_winners_81 : decode cX0_winners 81 = .ok (.iconst 1, 1) := by decide +kernel
theorem dX0_winners_82 : decode cX0_winners 82 = .ok (.isub, 1) := by decide +kernel
theorem dX0_winners_83 : decode cX0_winners 83 = .ok (.invokevirtual 41, 3) := by decide +kernel
theorem dX0_winners_86 : decode cX0_winners 86 = .ok (.ldc2_w 44, 3) := by decide +kernel
theorem dX0_winners_89 : decode cX0_winners 89 = .ok (.lxor, 1) := by decide +kernel
theorem dX0_winners_90 : decode cX0_winners 90 = .ok (.land, 1) := by decide +kernel
theorem dX0_winners_91 : decode cX0_winners 91 = .ok (.lor, 1) := by decide +kernel
theorem dX0_winners_92 : decode cX0_winners 92 = .ok (.lstore 6, 2) := by decide +kernel
theorem dX0_winners_94 : decode cX0_winners 94 = .ok (.iinc 8 1, 3) := by decide +kernel
theorem dX0_winners_97 : decode cX0_winners 97 = .ok (.goto (-83), 3) := by decide +kernel
theorem dX0_winners_100 : decode cX0_winners 100 = .ok (.lload 6, 2) := by decide +kernel
theorem dX0_winners_102 : decode cX0_winners 102 = .ok (.lreturn, 1) := by decide +kernel
set_option maxRecDepth 20000 in
theorem ggX0_firstMove_X6_lasts : GoodIn wsX0_firstMove wsX6_lasts := goodIn_r _ [13, 14, 15, 111, 112, 113, 114, 115, 116, 117, 118, 119, 120] (by decide +kernel) (by decide +kernel)
set_option maxRecDepth 20000 in
theorem gX0_firstMove_X6_lasts : GoodIn wsX0_firstMove (wsV RX0 49 RX6 yX6_lasts wsX6_lasts) := goodIn_app (goodIn_of _ (by decide +kernel)) ggX0_firstMove_X6_lasts
set_option maxRecDepth 20000 in
theorem ggX0_firstMove_X0_prepare : GoodIn wsX0_firstMove wsX0_prepare := goodIn_r _ [20, 4, 21, 22, 23, 24, 3, 25, 5, 26, 27, 28, 29, 6, 7, 30, 121, 122, 123, 124, 125, 126, 127, 128, 129, 130, 131, 132, 133, 134, 135, 136, 137] (by decide +kernel) (by decide +kernel)
set_option maxRecDepth 20000 in
theorem gX0_firstMove_X0_prepare : GoodIn wsX0_firstMove (wsV RX0 25 RX0 yX0_prepare wsX0_prepare) := goodIn_app (goodIn_of _ (by decide +kernel)) ggX0_firstMove_X0_prepare
set_option maxRecDepth 20000 in
theorem ggX0_firstMove_X6_myPurse : GoodIn wsX0_firstMove wsX6_myPurse := goodIn_r _ [34, 35, 15, 111, 112, 113, 114, 115, 116, 117, 118, 119, 120] (by decide +kernel) (by decide +kernel)
set_option maxRecDepth 20000 in
theorem gX0_firstMove_X6_myPurse : GoodIn wsX0_firstMove (wsV RX0 53 RX6 yX6_myPurse wsX6_myPurse) := goodIn_app (goodIn_of _ (by decide +kernel)) ggX0_firstMove_X6_myPurse
set_option maxRecDepth 20000 in
theorem ggX0_firstMove_X6_theirPurse : GoodIn wsX0_firstMove wsX6_theirPurse := goodIn_r _ [39, 35, 15, 111, 112, 113, 114, 115, 116, 117, 118, 119, 120] (by decide +kernel) (by decide +kernel)
set_option maxRecDepth 20000 in
theorem gX0_firstMove_X6_theirPurse : GoodIn wsX0_firstMove (wsV RX0 56 RX6 yX6_theirPurse wsX6_theirPurse) := goodIn_app (goodIn_of _ (by decide +kernel)) ggX0_firstMove_X6_theirPurse
set_option maxRecDepth 20000 in
theorem ggX0_firstMove_X0_fillSum : GoodIn wsX0_firstMove wsX0_fillSum := goodIn_r _ [43, 3, 44, 30, 29, 8, 45, 46, 47, 19, 48, 49, 50, 51, 52, 53, 54, 55, 56, 57, 58, 4, 5, 59, 60, 61, 62, 63, 64, 65, 66, 67, 68, 69, 70, 71, 72, 73, 74, 75, 76, 77, 78, 79, 80, 81, 82, 83, 84, 85, 86, 87, 88, 89, 90, 91, 121, 122, 123, 124, 125, 126, 127, 128, 129, 130, 131, 132, 133, 134, 135, 136, 137] (by decide +kernel) (by decide +kernel)
set_option maxRecDepth 20000 in
theorem gX0_firstMove_X0_fillSum : GoodIn wsX0_firstMove (wsV RX0 33 RX0 yX0_fillSum wsX0_fillSum) := goodIn_app (goodIn_of _ (by decide +kernel)) ggX0_firstMove_X0_fillSum
set_option maxRecDepth 20000 in
theorem ggX0_firstMove_X6_maySay : GoodIn wsX0_firstMove wsX6_maySay := goodIn_r _ [95, 96, 14, 15, 97, 98, 62, 63, 64, 65, 66, 67, 68, 111, 112, 113, 114, 115, 116, 117, 118, 119, 120, 132, 133, 134, 135, 136, 137] (by decide +kernel) (by decide +kernel)
set_option maxRecDepth 20000 in
theorem gX0_firstMove_X6_maySay : GoodIn wsX0_firstMove (wsV RX0 71 RX6 yX6_maySay wsX6_maySay) := goodIn_app (goodIn_of _ (by decide +kernel)) ggX0_firstMove_X6_maySay
set_option maxRecDepth 20000 in
theorem ggX0_firstMove_X1_cost : GoodIn wsX0_firstMove wsX1_cost := goodIn_r _ [65, 66, 67, 68, 132, 133, 134, 135, 136, 137] (by decide +kernel) (by decide +kernel)
set_option maxRecDepth 20000 in
theorem gX0_firstMove_X1_cost : GoodIn wsX0_firstMove (wsV RX0 78 RX1 yX1_cost wsX1_cost) := goodIn_app (goodIn_of _ (by decide +kernel)) ggX0_firstMove_X1_cost
set_option maxRecDepth 20000 in
theorem ggX0_firstMove_X0_kindOf : GoodIn wsX0_firstMove wsX0_kindOf := goodIn_r _ [72, 29, 121, 122, 123, 124, 125, 126, 127, 128, 129, 130, 131] (by decide +kernel) (by decide +kernel)
set_option maxRecDepth 20000 in
theorem gX0_firstMove_X0_kindOf : GoodIn wsX0_firstMove (wsV RX0 85 RX0 yX0_kindOf wsX0_kindOf) := goodIn_app (goodIn_of _ (by decide +kernel)) ggX0_firstMove_X0_kindOf
set_option maxRecDepth 20000 in
theorem ggX0_firstMove_X0_placeOf : GoodIn wsX0_firstMove wsX0_placeOf := goodIn_r _ [75] (by decide +kernel) (by decide +kernel)
set_option maxRecDepth 20000 in
theorem gX0_firstMove_X0_placeOf : GoodIn wsX0_firstMove (va_wsS RX0 89 yX0_placeOf wsX0_placeOf) := goodIn_app (goodIn_of _ (by decide +kernel)) ggX0_firstMove_X0_placeOf
set_option maxRecDepth 20000 in
theorem ggX0_firstMove_X0_holds : GoodIn wsX0_firstMove wsX0_holds := goodIn_r _ [101] (by decide +kernel) (by decide +kernel)
set_option maxRecDepth 20000 in
theorem gX0_firstMove_X0_holds : GoodIn wsX0_firstMove (va_wsS RX0 93 yX0_holds wsX0_holds) := goodIn_app (goodIn_of _ (by decide +kernel)) ggX0_firstMove_X0_holds
set_option maxRecDepth 20000 in
theorem ggX0_firstMove_X6_mayThrow : GoodIn wsX0_firstMove wsX6_mayThrow := goodIn_r _ [105, 96, 35, 15, 97, 106, 111, 112, 113, 114, 115, 116, 117, 118, 119, 120] (by decide +kernel) (by decide +kernel)
set_option maxRecDepth 20000 in
theorem gX0_firstMove_X6_mayThrow : GoodIn wsX0_firstMove (wsV RX0 97 RX6 yX6_mayThrow wsX6_mayThrow) := goodIn_app (goodIn_of _ (by decide +kernel)) ggX0_firstMove_X6_mayThrow
set_option maxRecDepth 20000 in
theorem ggX0_firstMove_X0_winnersOf : GoodIn wsX0_firstMove wsX0_winnersOf := goodIn_r _ [110, 8, 6, 7, 44, 73, 74, 19, 75, 86, 87, 88, 89, 90, 91, 121, 122, 123, 124, 125, 126, 127, 128, 129, 130, 131] (by decide +kernel) (by decide +kernel)
set_option maxRecDepth 20000 in
theorem gX0_firstMove_X0_winnersOf : GoodIn wsX0_firstMove (wsV RX0 37 RX0 yX0_winnersOf wsX0_winnersOf) := goodIn_app (goodIn_of _ (by decide +kernel)) ggX0_firstMove_X0_winnersOf
theorem dX0_firstMove_0 : decode cX0_firstMove 0 = .ok (.aload_n 0, 1) := by decide +kernel
theorem dX0_firstMove_1 : decode cX0_firstMove 1 = .ok (.aload_n 1, 1) := by decide +kernel
theorem dX0_firstMove_2 : decode cX0_firstMove 2 = .ok (.aload_n 2, 1) := by decide +kernel
theorem dX0_firstMove_3 : decode cX0_firstMove 3 = .ok (.getfield 46, 3) := by decide +kernel
theorem dX0_firstMove_6 : decode cX0_firstMove 6 = .ok (.aload_n 2, 1) := by decide +kernel
theorem dX0_firstMove_7 : decode cX0_firstMove 7 = .ok (.invokevirtual 49, 3) := by decide +kernel
theorem dX0_firstMove_10 : decode cX0_firstMove 10 = .ok (.invokevirtual 25, 3) := by decide +kernel
theorem dX0_firstMove_13 : decode cX0_firstMove 13 = .ok (.aload_n 2, 1) := by decide +kernel
theorem dX0_firstMove_14 : decode cX0_firstMove 14 = .ok (.invokevirtual 53, 3) := by decide +kernel
theorem dX0_firstMove_17 : decode cX0_firstMove 17 = .ok (.istore_n 3, 1) := by decide +kernel
theorem dX0_firstMove_18 : decode cX0_firstMove 18 = .ok (.aload_n 2, 1) := by decide +kernel
theorem dX0_firstMove_19 : decode cX0_firstMove 19 = .ok (.invokevirtual 56, 3) := by decide +kernel
theorem dX0_firstMove_22 : decode cX0_firstMove 22 = .ok (.istore 4, 2) := by decide +kernel
theorem dX0_firstMove_24 : decode cX0_firstMove 24 = .ok (.aload_n 2, 1) := by decide +kernel
theorem dX0_firstMove_25 : decode cX0_firstMove 25 = .ok (.getfield 59, 3) := by decide +kernel
theorem dX0_firstMove_28 : decode cX0_firstMove 28 = .ok (.aload_n 0, 1) := by decide +kernel
theorem dX0_firstMove_29 : decode cX0_firstMove 29 = .ok (.getfield 29, 3) := by decide +kernel
theorem dX0_firstMove_32 : decode cX0_firstMove 32 = .ok (.iload_n 3, 1) := by decide +kernel
theorem dX0_firstMove_33 : decode cX0_firstMove 33 = .ok (.iload 4, 2) := by decide +kernel
theorem dX0_firstMove_35 : decode cX0_firstMove 35 = .ok (.iadd, 1) := by decide +kernel
theorem dX0_firstMove_36 : decode cX0_firstMove 36 = .ok (.imul, 1) := by decide +kernel
theorem dX0_firstMove_37 : decode cX0_firstMove 37 = .ok (.iadd, 1) := by decide +kernel
theorem dX0_firstMove_38 : decode cX0_firstMove 38 = .ok (.istore 5, 2) := by decide +kernel
theorem dX0_firstMove_40 : decode cX0_firstMove 40 = .ok (.iconst 0, 1) := by decide +kernel
theorem dX0_firstMove_41 : decode cX0_firstMove 41 = .ok (.istore 6, 2) := by decide +kernel
theorem dX0_firstMove_43 : decode cX0_firstMove 43 = .ok (.iload 6, 2) := by decide +kernel
theorem dX0_firstMove_45 : decode cX0_firstMove 45 = .ok (.iload 5, 2) := by decide +kernel
theorem dX0_firstMove_47 : decode cX0_firstMove 47 = .ok (.if_icmp .gt 15, 3) := by decide +kernel
theorem dX0_firstMove_50 : decode cX0_firstMove 50 = .ok (.aload_n 0, 1) := by decide +kernel
theorem dX0_firstMove_51 : decode cX0_firstMove 51 = .ok (.iload 6, 2) := by decide +kernel
theorem dX0_firstMove_53 : decode cX0_firstMove 53 = .ok (.invokevirtual 33, 3) := by decide +kernel
theorem dX0_firstMove_56 : decode cX0_firstMove 56 = .ok (.iinc 6 1, 3) := by decide +kernel
theorem dX0_firstMove_59 : decode cX0_firstMove 59 = .ok (.goto (-16), 3) := by decide +kernel
theorem dX0_firstMove_62 : decode cX0_firstMove 62 = .ok (.iconst 0, 1) := by decide +kernel
theorem dX0_firstMove_63 : decode cX0_firstMove 63 = .ok (.istore 6, 2) := by decide +kernel
theorem dX0_firstMove_65 : decode cX0_firstMove 65 = .ok (.iload 6, 2) := by decide +kernel
theorem dX0_firstMove_67 : decode cX0_firstMove 67 = .ok (.aload_n 0, 1) := by decide +kernel
theorem dX0_firstMove_68 : decode cX0_firstMove 68 = .ok (.getfield 62, 3) := by decide +kernel
theorem dX0_firstMove_71 : decode cX0_firstMove 71 = .ok (.getfield 66, 3) := by decide +kernel
theorem dX0_firstMove_74 : decode cX0_firstMove 74 = .ok (.if_icmp .ge 74, 3) := by decide +kernel
theorem dX0_firstMove_77 : decode cX0_firstMove 77 = .ok (.aload_n 2, 1) := by decide +kernel
theorem dX0_firstMove_78 : decode cX0_firstMove 78 = .ok (.aload_n 0, 1) := by decide +kernel
theorem dX0_firstMove_79 : decode cX0_firstMove 79 = .ok (.getfield 62, 3) := by decide +kernel
theorem dX0_firstMove_82 : decode cX0_firstMove 82 = .ok (.iload 6, 2) := by decide +kernel
theorem dX0_firstMove_84 : decode cX0_firstMove 84 = .ok (.invokevirtual 71, 3) := by decide +kernel
theorem dX0_firstMove_87 : decode cX0_firstMove 87 = .ok (.ifCond .eq 55, 3) := by decide +kernel
theorem dX0_firstMove_90 : decode cX0_firstMove 90 = .ok (.iload 5, 2) := by decide +kernel
theorem dX0_firstMove_92 : decode cX0_firstMove 92 = .ok (.aload_n 0, 1) := by decide +kernel
theorem dX0_firstMove_93 : decode cX0_firstMove 93 = .ok (.getfield 62, 3) := by decide +kernel
theorem dX0_firstMove_96 : decode cX0_firstMove 96 = .ok (.iload 6, 2) := by decide +kernel
theorem dX0_firstMove_98 : decode cX0_firstMove 98 = .ok (.aload_n 0, 1) := by decide +kernel
theorem dX0_firstMove_99 : decode cX0_firstMove 99 = .ok (.getfield 75, 3) := by decide +kernel
theorem dX0_firstMove_102 : decode cX0_firstMove 102 = .ok (.iconst 1, 1) := by decide +kernel
theorem dX0_firstMove_103 : decode cX0_firstMove 103 = .ok (.isub, 1) := by decide +kernel
theorem dX0_firstMove_104 : decode cX0_firstMove 104 = .ok (.invokevirtual 78, 3) := by decide +kernel
theorem dX0_firstMove_107 : decode cX0_firstMove 107 = .ok (.isub, 1) := by decide +kernel
theorem dX0_firstMove_108 : decode cX0_firstMove 108 = .ok (.aload_n 0, 1) := by decide +kernel
theorem dX0_firstMove_109 : decode cX0_firstMove 109 = .ok (.getfield 82, 3) := by decide +kernel
theorem dX0_firstMove_112 : decode cX0_firstMove 112 = .ok (.aload_n 0, 1) := by decide +kernel
theorem dX0_firstMove_113 : decode cX0_firstMove 113 = .ok (.iload 6, 2) := by decide +kernel
theorem dX0_firstMove_115 : decode cX0_firstMove 115 = .ok (.invokevirtual 85, 3) := by decide +kernel
theorem dX0_firstMove_118 : decode cX0_firstMove 118 = .ok (.invokestatic 89, 3) := by decide +kernel
theorem dX0_firstMove_121 : decode cX0_firstMove 121 = .ok (.istore 7, 2) := by decide +kernel
theorem dX0_firstMove_123 : decode cX0_firstMove 123 = .ok (.aload_n 0, 1) := by decide +kernel
theorem dX0_firstMove_124 : decode cX0_firstMove 124 = .ok (.getfield 15, 3) := by decide +kernel
theorem dX0_firstMove_127 : decode cX0_firstMove 127 = .ok (.iload 7, 2) := by decide +kernel
theorem dX0_firstMove_129 : decode cX0_firstMove 129 = .ok (.laload, 1) := by decide +kernel
theorem dX0_firstMove_130 : decode cX0_firstMove 130 = .ok (.iload_n 3, 1) := by decide +kernel
theorem dX0_firstMove_131 : decode cX0_firstMove 131 = .ok (.iload 4, 2) := by decide +kernel
theorem dX0_firstMove_133 : decode cX0_firstMove 133 = .ok (.invokestatic 93, 3) := by decide +kernel
theorem dX0_firstMove_136 : decode cX0_firstMove 136 = .ok (.ifCond .eq 6, 3) := by decide +kernel
theorem dX0_firstMove_139 : decode cX0_firstMove 139 = .ok (.iload 6, 2) := by decide +kernel
theorem dX0_firstMove_141 : decode cX0_firstMove 141 = .ok (.ireturn, 1) := by decide +kernel
theorem dX0_firstMove_142 : decode cX0_firstMove 142 = .ok (.iinc 6 1, 3) := by decide +kernel
theorem dX0_firstMove_145 : decode cX0_firstMove 145 = .ok (.goto (-80), 3) := by decide +kernel
theorem dX0_firstMove_148 : decode cX0_firstMove 148 = .ok (.aload_n 2, 1) := by decide +kernel
theorem dX0_firstMove_149 : decode cX0_firstMove 149 = .ok (.invokevirtual 97, 3) := by decide +kernel
theorem dX0_firstMove_152 : decode cX0_firstMove 152 = .ok (.ifCond .eq 24, 3) := by decide +kernel
theorem dX0_firstMove_155 : decode cX0_firstMove 155 = .ok (.aload_n 0, 1) := by decide +kernel
theorem dX0_firstMove_156 : decode cX0_firstMove 156 = .ok (.iload 5, 2) := by decide +kernel
theorem dX0_firstMove_158 : decode cX0_firstMove 158 = .ok (.invokevirtual 37, 3) := by decide +kernel
theorem dX0_firstMove_161 : decode cX0_firstMove 161 = .ok (.iload_n 3, 1) := by decide +kernel
theorem dX0_firstMove_162 : decode cX0_firstMove 162 = .ok (.iconst 1, 1) := by decide +kernel
theorem dX0_firstMove_163 : decode cX0_firstMove 163 = .ok (.isub, 1) := by decide +kernel
theorem dX0_firstMove_164 : decode cX0_firstMove 164 = .ok (.iload 4, 2) := by decide +kernel
theorem dX0_firstMove_166 : decode cX0_firstMove 166 = .ok (.invokestatic 93, 3) := by decide +kernel
theorem dX0_firstMove_169 : decode cX0_firstMove 169 = .ok (.ifCond .eq 7, 3) := by decide +kernel
theorem dX0_firstMove_172 : decode cX0_firstMove 172 = .ok (.iconst 4, 1) := by decide +kernel
theorem dX0_firstMove_173 : decode cX0_firstMove 173 = .ok (.goto 4, 3) := by decide +kernel
theorem dX0_firstMove_176 : decode cX0_firstMove 176 = .ok (.iconst (-1), 1) := by decide +kernel
theorem dX0_firstMove_177 : decode cX0_firstMove 177 = .ok (.ireturn, 1) := by decide +kernel
theorem dX0_prepare_0 : decode cX0_prepare 0 = .ok (.aload_n 0, 1) := by decide +kernel
theorem dX0_prepare_1 : decode cX0_prepare 1 = .ok (.aload_n 1, 1) := by decide +kernel
theorem dX0_prepare_2 : decode cX0_prepare 2 = .ok (.putfield 62, 3) := by decide +kernel
theorem dX0_prepare_5 : decode cX0_prepare 5 = .ok (.aload_n 0, 1) := by decide +kernel
theorem dX0_prepare_6 : decode cX0_prepare 6 = .ok (.iconst 1, 1) := by decide +kernel
theorem dX0_prepare_7 : decode cX0_prepare 7 = .ok (.iload_n 2, 1) := by decide +kernel
theorem dX0_prepare_8 : decode cX0_prepare 8 = .ok (.invokestatic 101, 3) := by decide +kernel
theorem dX0_prepare_11 : decode cX0_prepare 11 = .ok (.putfield 29, 3) := by decide +kernel
theorem dX0_prepare_14 : decode cX0_prepare 14 = .ok (.aload_n 0, 1) := by decide +kernel
theorem dX0_prepare_15 : decode cX0_prepare 15 = .ok (.aload_n 0, 1) := by decide +kernel
theorem dX0_prepare_16 : decode cX0_prepare 16 = .ok (.getfield 62, 3) := by decide +kernel
theorem dX0_prepare_19 : decode cX0_prepare 19 = .ok (.getfield 106, 3) := by decide +kernel
theorem dX0_prepare_22 : decode cX0_prepare 22 = .ok (.ifCond .ne 7, 3) := by decide +kernel
theorem dX0_prepare_25 : decode cX0_prepare 25 = .ok (.iconst 1, 1) := by decide +kernel
theorem dX0_prepare_26 : decode cX0_prepare 26 = .ok (.goto 16, 3) := by decide +kernel
theorem dX0_prepare_29 : decode cX0_prepare 29 = .ok (.aload_n 0, 1) := by decide +kernel
theorem dX0_prepare_30 : decode cX0_prepare 30 = .ok (.getfield 62, 3) := by decide +kernel
theorem dX0_prepare_33 : decode cX0_prepare 33 = .ok (.getfield 66, 3) := by decide +kernel
theorem dX0_prepare_36 : decode cX0_prepare 36 = .ok (.iconst 1, 1) := by decide +kernel
theorem dX0_prepare_37 : decode cX0_prepare 37 = .ok (.iadd, 1) := by decide +kernel
theorem dX0_prepare_38 : decode cX0_prepare 38 = .ok (.iconst 5, 1) := by decide +kernel
theorem dX0_prepare_39 : decode cX0_prepare 39 = .ok (.invokestatic 109, 3) := by decide +kernel
theorem dX0_prepare_42 : decode cX0_prepare 42 = .ok (.putfield 112, 3) := by decide +kernel
theorem dX0_prepare_45 : decode cX0_prepare 45 = .ok (.aload_n 0, 1) := by decide +kernel
theorem dX0_prepare_46 : decode cX0_prepare 46 = .ok (.iload_n 3, 1) := by decide +kernel
theorem dX0_prepare_47 : decode cX0_prepare 47 = .ok (.bipush 8, 2) := by decide +kernel
theorem dX0_prepare_49 : decode cX0_prepare 49 = .ok (.idiv, 1) := by decide +kernel
theorem dX0_prepare_50 : decode cX0_prepare 50 = .ok (.aload_n 0, 1) := by decide +kernel
theorem dX0_prepare_51 : decode cX0_prepare 51 = .ok (.getfield 112, 3) := by decide +kernel
theorem dX0_prepare_54 : decode cX0_prepare 54 = .ok (.iconst 1, 1) := by decide +kernel
theorem dX0_prepare_55 : decode cX0_prepare 55 = .ok (.isub, 1) := by decide +kernel
theorem dX0_prepare_56 : decode cX0_prepare 56 = .ok (.invokestatic 109, 3) := by decide +kernel
theorem dX0_prepare_59 : decode cX0_prepare 59 = .ok (.putfield 75, 3) := by decide +kernel
theorem dX0_prepare_62 : decode cX0_prepare 62 = .ok (.aload_n 0, 1) := by decide +kernel
theorem dX0_prepare_63 : decode cX0_prepare 63 = .ok (.iload_n 3, 1) := by decide +kernel
theorem dX0_prepare_64 : decode cX0_prepare 64 = .ok (.bipush 8, 2) := by decide +kernel
theorem dX0_prepare_66 : decode cX0_prepare 66 = .ok (.irem, 1) := by decide +kernel
theorem dX0_prepare_67 : decode cX0_prepare 67 = .ok (.aload_n 0, 1) := by decide +kernel
theorem dX0_prepare_68 : decode cX0_prepare 68 = .ok (.getfield 112, 3) := by decide +kernel
theorem dX0_prepare_71 : decode cX0_prepare 71 = .ok (.iconst 1, 1) := by decide +kernel
theorem dX0_prepare_72 : decode cX0_prepare 72 = .ok (.isub, 1) := by decide +kernel
theorem dX0_prepare_73 : decode cX0_prepare 73 = .ok (.invokestatic 109, 3) := by decide +kernel
theorem dX0_prepare_76 : decode cX0_prepare 76 = .ok (.putfield 82, 3) := by decide +kernel
theorem dX0_prepare_79 : decode cX0_prepare 79 = .ok (.aload_n 0, 1) := by decide +kernel
theorem dX0_prepare_80 : decode cX0_prepare 80 = .ok (.aload_n 0, 1) := by decide +kernel
theorem dX0_prepare_81 : decode cX0_prepare 81 = .ok (.getfield 75, 3) := by decide +kernel
theorem dX0_prepare_84 : decode cX0_prepare 84 = .ok (.ifCond .le 14, 3) := by decide +kernel
theorem dX0_prepare_87 : decode cX0_prepare 87 = .ok (.aload_n 0, 1) := by decide +kernel
theorem dX0_prepare_88 : decode cX0_prepare 88 = .ok (.getfield 82, 3) := by decide +kernel
theorem dX0_prepare_91 : decode cX0_prepare 91 = .ok (.ifCond .le 7, 3) := by decide +kernel
theorem dX0_prepare_94 : decode cX0_prepare 94 = .ok (.iconst 1, 1) := by decide +kernel
theorem dX0_prepare_95 : decode cX0_prepare 95 = .ok (.goto 4, 3) := by decide +kernel
theorem dX0_prepare_98 : decode cX0_prepare 98 = .ok (.iconst 0, 1) := by decide +kernel
theorem dX0_prepare_99 : decode cX0_prepare 99 = .ok (.putfield 115, 3) := by decide +kernel
theorem dX0_prepare_102 : decode cX0_prepare 102 = .ok (.return_, 1) := by decide +kernel
theorem dX0_kindOf_0 : decode cX0_kindOf 0 = .ok (.aload_n 0, 1) := by decide +kernel
theorem dX0_kindOf_1 : decode cX0_kindOf 1 = .ok (.getfield 112, 3) := by decide +kernel
theorem dX0_kindOf_4 : decode cX0_kindOf 4 = .ok (.iconst 1, 1) := by decide +kernel
theorem dX0_kindOf_5 : decode cX0_kindOf 5 = .ok (.if_icmp .ne 7, 3) := by decide +kernel
theorem dX0_kindOf_8 : decode cX0_kindOf 8 = .ok (.iconst 0, 1) := by decide +kernel
theorem dX0_kindOf_9 : decode cX0_kindOf 9 = .ok (.goto 6, 3) := by decide +kernel
theorem dX0_kindOf_12 : decode cX0_kindOf 12 = .ok (.iload_n 1, 1) := by decide +kernel
theorem dX0_kindOf_13 : decode cX0_kindOf 13 = .ok (.iconst 1, 1) := by decide +kernel
theorem dX0_kindOf_14 : decode cX0_kindOf 14 = .ok (.iadd, 1) := by decide +kernel
theorem dX0_kindOf_15 : decode cX0_kindOf 15 = .ok (.ireturn, 1) := by decide +kernel
set_option maxRecDepth 20000 in
theorem ggX0_winnersOf_X0_placeOf : GoodIn wsX0_winnersOf wsX0_placeOf := goodIn_r _ [8] (by decide +kernel) (by decide +kernel)
set_option maxRecDepth 20000 in
theorem gX0_winnersOf_X0_placeOf : GoodIn wsX0_winnersOf (va_wsS RX0 89 yX0_placeOf wsX0_placeOf) := goodIn_app (goodIn_of _ (by decide +kernel)) ggX0_winnersOf_X0_placeOf
set_option maxRecDepth 20000 in
theorem ggX0_winnersOf_X0_swapped : GoodIn wsX0_winnersOf wsX0_swapped := goodIn_r _ [11, 12, 13, 14] (by decide +kernel) (by decide +kernel)
set_option maxRecDepth 20000 in
theorem gX0_winnersOf_X0_swapped : GoodIn wsX0_winnersOf (va_wsS RX0 118 yX0_swapped wsX0_swapped) := goodIn_app (goodIn_of _ (by decide +kernel)) ggX0_winnersOf_X0_swapped
theorem dX0_winnersOf_0 : decode cX0_winnersOf 0 = .ok (.aload_n 0, 1) := by decide +kernel
theorem dX0_winnersOf_1 : decode cX0_winnersOf 1 = .ok (.getfield 15, 3) := by decide +kernel
theorem dX0_winnersOf_4 : decode cX0_winnersOf 4 = .ok (.iload_n 1, 1) := by decide +kernel
theorem dX0_winnersOf_5 : decode cX0_winnersOf 5 = .ok (.aload_n 0, 1) := by decide +kernel
theorem dX0_winnersOf_6 : decode cX0_winnersOf 6 = .ok (.getfield 75, 3) := by decide +kernel
theorem dX0_winnersOf_9 : decode cX0_winnersOf 9 = .ok (.aload_n 0, 1) := by decide +kernel
theorem dX0_winnersOf_10 : decode cX0_winnersOf 10 = .ok (.getfield 82, 3) := by decide +kernel
theorem dX0_winnersOf_13 : decode cX0_winnersOf 13 = .ok (.invokestatic 89, 3) := by decide +kernel
theorem dX0_winnersOf_16 : decode cX0_winnersOf 16 = .ok (.laload, 1) := by decide +kernel
theorem dX0_winnersOf_17 : decode cX0_winnersOf 17 = .ok (.invokestatic 118, 3) := by decide +kernel
theorem dX0_winnersOf_20 : decode cX0_winnersOf 20 = .ok (.ldc2_w 44, 3) := by decide +kernel
theorem dX0_winnersOf_23 : decode cX0_winnersOf 23 = .ok (.lxor, 1) := by decide +kernel
theorem dX0_winnersOf_24 : decode cX0_winnersOf 24 = .ok (.lreturn, 1) := by decide +kernel
set_option maxRecDepth 20000 in
theorem ggX0_fillSum_X0_purses : GoodIn wsX0_fillSum wsX0_purses := goodIn_r _ [10, 11, 56, 57, 58, 59, 60, 61, 62, 63, 64, 65, 66] (by decide +kernel) (by decide +kernel)
set_option maxRecDepth 20000 in
theorem gX0_fillSum_X0_purses : GoodIn wsX0_fillSum (wsV RX0 41 RX0 yX0_purses wsX0_purses) := goodIn_app (goodIn_of _ (by decide +kernel)) ggX0_fillSum_X0_purses
set_option maxRecDepth 20000 in
theorem ggX0_fillSum_X0_tooLong : GoodIn wsX0_fillSum wsX0_tooLong := goodIn_r _ [15, 1, 6, 7, 8, 9, 10, 11, 56, 57, 58, 59, 60, 61, 62, 63, 64, 65, 66] (by decide +kernel) (by decide +kernel)
set_option maxRecDepth 20000 in
theorem gX0_fillSum_X0_tooLong : GoodIn wsX0_fillSum (wsV RX0 122 RX0 yX0_tooLong wsX0_tooLong) := goodIn_app (goodIn_of _ (by decide +kernel)) ggX0_fillSum_X0_tooLong
set_option maxRecDepth 20000 in
theorem ggX0_fillSum_X0_gatherWords : GoodIn wsX0_fillSum wsX0_gatherWords := goodIn_r _ [19, 20, 21, 22, 23, 24, 1, 25, 26, 27, 28, 29, 30, 31, 32, 33, 34, 35, 9, 36, 4, 37, 38, 39, 6, 7, 8, 10, 11, 56, 57, 58, 59, 60, 61, 62, 63, 64, 65, 66, 67, 68, 69, 70, 71, 72] (by decide +kernel) (by decide +kernel)
set_option maxRecDepth 20000 in
theorem gX0_fillSum_X0_gatherWords : GoodIn wsX0_fillSum (wsV RX0 125 RX0 yX0_gatherWords wsX0_gatherWords) := goodIn_app (goodIn_of _ (by decide +kernel)) ggX0_fillSum_X0_gatherWords
set_option maxRecDepth 20000 in
theorem ggX0_fillSum_X0_bySpeaking : GoodIn wsX0_fillSum wsX0_bySpeaking := goodIn_r _ [43, 20, 5, 23, 24, 56, 57, 58, 59, 60, 61, 62, 63, 64, 65, 66] (by decide +kernel) (by decide +kernel)
set_option maxRecDepth 20000 in
theorem gX0_fillSum_X0_bySpeaking : GoodIn wsX0_fillSum (wsV RX0 129 RX0 yX0_bySpeaking wsX0_bySpeaking) := goodIn_app (goodIn_of _ (by decide +kernel)) ggX0_fillSum_X0_bySpeaking
set_option maxRecDepth 20000 in
theorem ggX0_fillSum_X0_withThrows : GoodIn wsX0_fillSum wsX0_withThrows := goodIn_r _ [46, 47, 48, 49] (by decide +kernel) (by decide +kernel)
set_option maxRecDepth 20000 in
theorem gX0_fillSum_X0_withThrows : GoodIn wsX0_fillSum (va_wsS RX0 132 yX0_withThrows wsX0_withThrows) := goodIn_app (goodIn_of _ (by decide +kernel)) ggX0_fillSum_X0_withThrows
set_option maxRecDepth 20000 in
theorem ggX0_fillSum_X0_placeOf : GoodIn wsX0_fillSum wsX0_placeOf := goodIn_r _ [39] (by decide +kernel) (by decide +kernel)
set_option maxRecDepth 20000 in
theorem gX0_fillSum_X0_placeOf : GoodIn wsX0_fillSum (va_wsS RX0 89 yX0_placeOf wsX0_placeOf) := goodIn_app (goodIn_of _ (by decide +kernel)) ggX0_fillSum_X0_placeOf
set_option maxRecDepth 20000 in
theorem ggX0_fillSum_X0_swapped : GoodIn wsX0_fillSum wsX0_swapped := goodIn_r _ [52, 53, 54, 55] (by decide +kernel) (by decide +kernel)
set_option maxRecDepth 20000 in
theorem gX0_fillSum_X0_swapped : GoodIn wsX0_fillSum (va_wsS RX0 118 yX0_swapped wsX0_swapped) := goodIn_app (goodIn_of _ (by decide +kernel)) ggX0_fillSum_X0_swapped
theorem dX0_fillSum_0 : decode cX0_fillSum 0 = .ok (.aload_n 0, 1) := by decide +kernel
theorem dX0_fillSum_1 : decode cX0_fillSum 1 = .ok (.iload_n 1, 1) := by decide +kernel
theorem dX0_fillSum_2 : decode cX0_fillSum 2 = .ok (.aload_n 0, 1) := by decide +kernel
theorem dX0_fillSum_3 : decode cX0_fillSum 3 = .ok (.getfield 29, 3) := by decide +kernel
theorem dX0_fillSum_6 : decode cX0_fillSum 6 = .ok (.idiv, 1) := by decide +kernel
theorem dX0_fillSum_7 : decode cX0_fillSum 7 = .ok (.invokevirtual 41, 3) := by decide +kernel
theorem dX0_fillSum_10 : decode cX0_fillSum 10 = .ok (.aload_n 0, 1) := by decide +kernel
theorem dX0_fillSum_11 : decode cX0_fillSum 11 = .ok (.iload_n 1, 1) := by decide +kernel
theorem dX0_fillSum_12 : decode cX0_fillSum 12 = .ok (.invokevirtual 122, 3) := by decide +kernel
theorem dX0_fillSum_15 : decode cX0_fillSum 15 = .ok (.ldc2_w 44, 3) := by decide +kernel
theorem dX0_fillSum_18 : decode cX0_fillSum 18 = .ok (.lxor, 1) := by decide +kernel
theorem dX0_fillSum_19 : decode cX0_fillSum 19 = .ok (.land, 1) := by decide +kernel
theorem dX0_fillSum_20 : decode cX0_fillSum 20 = .ok (.lstore_n 2, 1) := by decide +kernel
theorem dX0_fillSum_21 : decode cX0_fillSum 21 = .ok (.aload_n 0, 1) := by decide +kernel
theorem dX0_fillSum_22 : decode cX0_fillSum 22 = .ok (.getfield 115, 3) := by decide +kernel
theorem dX0_fillSum_25 : decode cX0_fillSum 25 = .ok (.istore 4, 2) := by decide +kernel
theorem dX0_fillSum_27 : decode cX0_fillSum 27 = .ok (.iload 4, 2) := by decide +kernel
theorem dX0_fillSum_29 : decode cX0_fillSum 29 = .ok (.aload_n 0, 1) := by decide +kernel
theorem dX0_fillSum_30 : decode cX0_fillSum 30 = .ok (.getfield 112, 3) := by decide +kernel
theorem dX0_fillSum_33 : decode cX0_fillSum 33 = .ok (.if_icmp .ge 74, 3) := by decide +kernel
theorem dX0_fillSum_36 : decode cX0_fillSum 36 = .ok (.aload_n 0, 1) := by decide +kernel
theorem dX0_fillSum_37 : decode cX0_fillSum 37 = .ok (.iload_n 1, 1) := by decide +kernel
theorem dX0_fillSum_38 : decode cX0_fillSum 38 = .ok (.iload 4, 2) := by decide +kernel
theorem dX0_fillSum_40 : decode cX0_fillSum 40 = .ok (.invokevirtual 125, 3) := by decide +kernel
theorem dX0_fillSum_43 : decode cX0_fillSum 43 = .ok (.aload_n 0, 1) := by decide +kernel
theorem dX0_fillSum_44 : decode cX0_fillSum 44 = .ok (.getfield 115, 3) := by decide +kernel
theorem dX0_fillSum_47 : decode cX0_fillSum 47 = .ok (.istore 5, 2) := by decide +kernel
theorem dX0_fillSum_49 : decode cX0_fillSum 49 = .ok (.iload 5, 2) := by decide +kernel
theorem dX0_fillSum_51 : decode cX0_fillSum 51 = .ok (.aload_n 0, 1) := by decide +kernel
theorem dX0_fillSum_52 : decode cX0_fillSum 52 = .ok (.getfield 112, 3) := by decide +kernel
theorem dX0_fillSum_55 : decode cX0_fillSum 55 = .ok (.if_icmp .ge 46, 3) := by decide +kernel
theorem dX0_fillSum_58 : decode cX0_fillSum 58 = .ok (.aload_n 0, 1) := by decide +kernel
theorem dX0_fillSum_59 : decode cX0_fillSum 59 = .ok (.iload 5, 2) := by decide +kernel
theorem dX0_fillSum_61 : decode cX0_fillSum 61 = .ok (.invokevirtual 129, 3) := by decide +kernel
theorem dX0_fillSum_64 : decode cX0_fillSum 64 = .ok (.lload_n 2, 1) := by decide +kernel
theorem dX0_fillSum_65 : decode cX0_fillSum 65 = .ok (.land, 1) := by decide +kernel
theorem dX0_fillSum_66 : decode cX0_fillSum 66 = .ok (.invokestatic 132, 3) := by decide +kernel
theorem dX0_fillSum_69 : decode cX0_fillSum 69 = .ok (.lload_n 2, 1) := by decide +kernel
theorem dX0_fillSum_70 : decode cX0_fillSum 70 = .ok (.land, 1) := by decide +kernel
theorem dX0_fillSum_71 : decode cX0_fillSum 71 = .ok (.lstore 6, 2) := by decide +kernel
theorem dX0_fillSum_73 : decode cX0_fillSum 73 = .ok (.aload_n 0, 1) := by decide +kernel
theorem dX0_fillSum_74 : decode cX0_fillSum 74 = .ok (.getfield 15, 3) := by decide +kernel
theorem dX0_fillSum_77 : decode cX0_fillSum 77 = .ok (.iload_n 1, 1) := by decide +kernel
theorem dX0_fillSum_78 : decode cX0_fillSum 78 = .ok (.iload 4, 2) := by decide +kernel
theorem dX0_fillSum_80 : decode cX0_fillSum 80 = .ok (.iload 5, 2) := by decide +kernel
theorem dX0_fillSum_82 : decode cX0_fillSum 82 = .ok (.invokestatic 89, 3) := by decide +kernel
theorem dX0_fillSum_85 : decode cX0_fillSum 85 = .ok (.lload 6, 2) := by decide +kernel
theorem dX0_fillSum_87 : decode cX0_fillSum 87 = .ok (.ldc2_w 44, 3) := by decide +kernel
theorem dX0_fillSum_90 : decode cX0_fillSum 90 = .ok (.lxor, 1) := by decide +kernel
theorem dX0_fillSum_91 : decode cX0_fillSum 91 = .ok (.invokestatic 118, 3) := by decide +kernel
theorem dX0_fillSum_94 : decode cX0_fillSum 94 = .ok (.lastore, 1) := by decide +kernel
theorem dX0_fillSum_95 : decode cX0_fillSum 95 = .ok (.iinc 5 1, 3) := by decide +kernel
theorem dX0_fillSum_98 : decode cX0_fillSum 98 = .ok (.goto (-49), 3) := by decide +kernel
theorem dX0_fillSum_101 : decode cX0_fillSum 101 = .ok (.iinc 4 1, 3) := by decide +kernel
theorem dX0_fillSum_104 : decode cX0_fillSum 104 = .ok (.goto (-77), 3) := by decide +kernel
theorem dX0_fillSum_107 : decode cX0_fillSum 107 = .ok (.return_, 1) := by decide +kernel
set_option maxRecDepth 20000 in
theorem ggX0_tooLong_X0_purses : GoodIn wsX0_tooLong wsX0_purses := goodIn_r _ [6, 7, 8, 9, 10, 11, 12, 13, 14, 15, 16, 17, 18] (by decide +kernel) (by decide +kernel)
set_option maxRecDepth 20000 in
theorem gX0_tooLong_X0_purses : GoodIn wsX0_tooLong (wsV RX0 41 RX0 yX0_purses wsX0_purses) := goodIn_app (goodIn_of _ (by decide +kernel)) ggX0_tooLong_X0_purses
theorem dX0_tooLong_0 : decode cX0_tooLong 0 = .ok (.iload_n 1, 1) := by decide +kernel
theorem dX0_tooLong_1 : decode cX0_tooLong 1 = .ok (.sipush 200, 3) := by decide +kernel
theorem dX0_tooLong_4 : decode cX0_tooLong 4 = .ok (.if_icmp .le 22, 3) := by decide +kernel
theorem dX0_tooLong_7 : decode cX0_tooLong 7 = .ok (.aload_n 0, 1) := by decide +kernel
theorem dX0_tooLong_8 : decode cX0_tooLong 8 = .ok (.iload_n 1, 1) := by decide +kernel
theorem dX0_tooLong_9 : decode cX0_tooLong 9 = .ok (.sipush 200, 3) := by decide +kernel
theorem dX0_tooLong_12 : decode cX0_tooLong 12 = .ok (.isub, 1) := by decide +kernel
theorem dX0_tooLong_13 : decode cX0_tooLong 13 = .ok (.iconst 1, 1) := by decide +kernel
theorem dX0_tooLong_14 : decode cX0_tooLong 14 = .ok (.isub, 1) := by decide +kernel
theorem dX0_tooLong_15 : decode cX0_tooLong 15 = .ok (.aload_n 0, 1) := by decide +kernel
theorem dX0_tooLong_16 : decode cX0_tooLong 16 = .ok (.getfield 29, 3) := by decide +kernel
theorem dX0_tooLong_19 : decode cX0_tooLong 19 = .ok (.idiv, 1) := by decide +kernel
theorem dX0_tooLong_20 : decode cX0_tooLong 20 = .ok (.invokevirtual 41, 3) := by decide +kernel
theorem dX0_tooLong_23 : decode cX0_tooLong 23 = .ok (.goto 4, 3) := by decide +kernel
theorem dX0_tooLong_26 : decode cX0_tooLong 26 = .ok (.lconst 0, 1) := by decide +kernel
theorem dX0_tooLong_27 : decode cX0_tooLong 27 = .ok (.lreturn, 1) := by decide +kernel
set_option maxRecDepth 20000 in
theorem ggX0_gatherWords_X1_cost : GoodIn wsX0_gatherWords wsX1_cost := goodIn_r _ [11, 12, 13, 14, 40, 41, 42, 43, 44, 45] (by decide +kernel) (by decide +kernel)
set_option maxRecDepth 20000 in
theorem gX0_gatherWords_X1_cost : GoodIn wsX0_gatherWords (wsV RX0 78 RX1 yX1_cost wsX1_cost) := goodIn_app (goodIn_of _ (by decide +kernel)) ggX0_gatherWords_X1_cost
set_option maxRecDepth 20000 in
theorem ggX0_gatherWords_X0_kindOf : GoodIn wsX0_gatherWords wsX0_kindOf := goodIn_r _ [19, 20, 29, 30, 31, 32, 33, 34, 35, 36, 37, 38, 39] (by decide +kernel) (by decide +kernel)
set_option maxRecDepth 20000 in
theorem gX0_gatherWords_X0_kindOf : GoodIn wsX0_gatherWords (wsV RX0 85 RX0 yX0_kindOf wsX0_kindOf) := goodIn_app (goodIn_of _ (by decide +kernel)) ggX0_gatherWords_X0_kindOf
set_option maxRecDepth 20000 in
theorem ggX0_gatherWords_X0_placeOf : GoodIn wsX0_gatherWords wsX0_placeOf := goodIn_r _ [23] (by decide +kernel) (by decide +kernel)
set_option maxRecDepth 20000 in
theorem gX0_gatherWords_X0_placeOf : GoodIn wsX0_gatherWords (va_wsS RX0 89 yX0_placeOf wsX0_placeOf) := goodIn_app (goodIn_of _ (by decide +kernel)) ggX0_gatherWords_X0_placeOf
set_option maxRecDepth 20000 in
theorem ggX0_gatherWords_X0_purses : GoodIn wsX0_gatherWords wsX0_purses := goodIn_r _ [27, 28, 29, 30, 31, 32, 33, 34, 35, 36, 37, 38, 39] (by decide +kernel) (by decide +kernel)
set_option maxRecDepth 20000 in
theorem gX0_gatherWords_X0_purses : GoodIn wsX0_gatherWords (wsV RX0 41 RX0 yX0_purses wsX0_purses) := goodIn_app (goodIn_of _ (by decide +kernel)) ggX0_gatherWords_X0_purses
theorem dX0_gatherWords_0 : decode cX0_gatherWords 0 = .ok (.aload_n 0, 1) := by decide +kernel
theorem dX0_gatherWords_1 : decode cX0_gatherWords 1 = .ok (.iconst 0, 1) := by decide +kernel
theorem dX0_gatherWords_2 : decode cX0_gatherWords 2 = .ok (.putfield 135, 3) := by decide +kernel
theorem dX0_gatherWords_5 : decode cX0_gatherWords 5 = .ok (.iconst 0, 1) := by decide +kernel
theorem dX0_gatherWords_6 : decode cX0_gatherWords 6 = .ok (.istore_n 3, 1) := by decide +kernel
theorem dX0_gatherWords_7 : decode cX0_gatherWords 7 = .ok (.iload_n 3, 1) := by decide +kernel
theorem dX0_gatherWords_8 : decode cX0_gatherWords 8 = .ok (.aload_n 0, 1) := by decide +kernel
theorem dX0_gatherWords_9 : decode cX0_gatherWords 9 = .ok (.getfield 62, 3) := by decide +kernel
theorem dX0_gatherWords_12 : decode cX0_gatherWords 12 = .ok (.getfield 66, 3) := by decide +kernel
theorem dX0_gatherWords_15 : decode cX0_gatherWords 15 = .ok (.if_icmp .ge 84, 3) := by decide +kernel
theorem dX0_gatherWords_18 : decode cX0_gatherWords 18 = .ok (.iload_n 3, 1) := by decide +kernel
theorem dX0_gatherWords_19 : decode cX0_gatherWords 19 = .ok (.iconst 4, 1) := by decide +kernel
theorem dX0_gatherWords_20 : decode cX0_gatherWords 20 = .ok (.if_icmp .ge 79, 3) := by decide +kernel
theorem dX0_gatherWords_23 : decode cX0_gatherWords 23 = .ok (.iload_n 1, 1) := by decide +kernel
theorem dX0_gatherWords_24 : decode cX0_gatherWords 24 = .ok (.aload_n 0, 1) := by decide +kernel
theorem dX0_gatherWords_25 : decode cX0_gatherWords 25 = .ok (.getfield 62, 3) := by decide +kernel
theorem dX0_gatherWords_28 : decode cX0_gatherWords 28 = .ok (.iload_n 3, 1) := by decide +kernel
theorem dX0_gatherWords_29 : decode cX0_gatherWords 29 = .ok (.iload_n 2, 1) := by decide +kernel
theorem dX0_gatherWords_30 : decode cX0_gatherWords 30 = .ok (.iconst 1, 1) := by decide +kernel
theorem dX0_gatherWords_31 : decode cX0_gatherWords 31 = .ok (.isub, 1) := by decide +kernel
theorem dX0_gatherWords_32 : decode cX0_gatherWords 32 = .ok (.invokevirtual 78, 3) := by decide +kernel
theorem dX0_gatherWords_35 : decode cX0_gatherWords 35 = .ok (.isub, 1) := by decide +kernel
theorem dX0_gatherWords_36 : decode cX0_gatherWords 36 = .ok (.istore 4, 2) := by decide +kernel
theorem dX0_gatherWords_38 : decode cX0_gatherWords 38 = .ok (.iload 4, 2) := by decide +kernel
theorem dX0_gatherWords_40 : decode cX0_gatherWords 40 = .ok (.ifCond .lt 53, 3) := by decide +kernel
theorem dX0_gatherWords_43 : decode cX0_gatherWords 43 = .ok (.aload_n 0, 1) := by decide +kernel
theorem dX0_gatherWords_44 : decode cX0_gatherWords 44 = .ok (.getfield 18, 3) := by decide +kernel
theorem dX0_gatherWords_47 : decode cX0_gatherWords 47 = .ok (.aload_n 0, 1) := by decide +kernel
theorem dX0_gatherWords_48 : decode cX0_gatherWords 48 = .ok (.getfield 135, 3) := by decide +kernel
theorem dX0_gatherWords_51 : decode cX0_gatherWords 51 = .ok (.iload 4, 2) := by decide +kernel
theorem dX0_gatherWords_53 : decode cX0_gatherWords 53 = .ok (.iconst 0, 1) := by decide +kernel
theorem dX0_gatherWords_54 : decode cX0_gatherWords 54 = .ok (.aload_n 0, 1) := by decide +kernel
theorem dX0_gatherWords_55 : decode cX0_gatherWords 55 = .ok (.iload_n 3, 1) := by decide +kernel
theorem dX0_gatherWords_56 : decode cX0_gatherWords 56 = .ok (.invokevirtual 85, 3) := by decide +kernel
theorem dX0_gatherWords_59 : decode cX0_gatherWords 59 = .ok (.invokestatic 89, 3) := by decide +kernel
theorem dX0_gatherWords_62 : decode cX0_gatherWords 62 = .ok (.iastore, 1) := by decide +kernel
theorem dX0_gatherWords_63 : decode cX0_gatherWords 63 = .ok (.aload_n 0, 1) := by decide +kernel
theorem dX0_gatherWords_64 : decode cX0_gatherWords 64 = .ok (.getfield 22, 3) := by decide +kernel
theorem dX0_gatherWords_67 : decode cX0_gatherWords 67 = .ok (.aload_n 0, 1) := by decide +kernel
theorem dX0_gatherWords_68 : decode cX0_gatherWords 68 = .ok (.getfield 135, 3) := by decide +kernel
theorem dX0_gatherWords_71 : decode cX0_gatherWords 71 = .ok (.aload_n 0, 1) := by decide +kernel
theorem dX0_gatherWords_72 : decode cX0_gatherWords 72 = .ok (.iload 4, 2) := by decide +kernel
theorem dX0_gatherWords_74 : decode cX0_gatherWords 74 = .ok (.aload_n 0, 1) := by decide +kernel
theorem dX0_gatherWords_75 : decode cX0_gatherWords 75 = .ok (.getfield 29, 3) := by decide +kernel
theorem dX0_gatherWords_78 : decode cX0_gatherWords 78 = .ok (.idiv, 1) := by decide +kernel
theorem dX0_gatherWords_79 : decode cX0_gatherWords 79 = .ok (.invokevirtual 41, 3) := by decide +kernel
theorem dX0_gatherWords_82 : decode cX0_gatherWords 82 = .ok (.lastore, 1) := by decide +kernel
theorem dX0_gatherWords_83 : decode cX0_gatherWords 83 = .ok (.aload_n 0, 1) := by decide +kernel
theorem dX0_gatherWords_84 : decode cX0_gatherWords 84 = .ok (.dup, 1) := by decide +kernel
theorem dX0_gatherWords_85 : decode cX0_gatherWords 85 = .ok (.getfield 135, 3) := by decide +kernel
theorem dX0_gatherWords_88 : decode cX0_gatherWords 88 = .ok (.iconst 1, 1) := by decide +kernel
theorem dX0_gatherWords_89 : decode cX0_gatherWords 89 = .ok (.iadd, 1) := by decide +kernel
theorem dX0_gatherWords_90 : decode cX0_gatherWords 90 = .ok (.putfield 135, 3) := by decide +kernel
theorem dX0_gatherWords_93 : decode cX0_gatherWords 93 = .ok (.iinc 3 1, 3) := by decide +kernel
theorem dX0_gatherWords_96 : decode cX0_gatherWords 96 = .ok (.goto (-89), 3) := by decide +kernel
theorem dX0_gatherWords_99 : decode cX0_gatherWords 99 = .ok (.return_, 1) := by decide +kernel
theorem dX0_bySpeaking_0 : decode cX0_bySpeaking 0 = .ok (.lconst 0, 1) := by decide +kernel
theorem dX0_bySpeaking_1 : decode cX0_bySpeaking 1 = .ok (.lstore_n 2, 1) := by decide +kernel
theorem dX0_bySpeaking_2 : decode cX0_bySpeaking 2 = .ok (.iconst 0, 1) := by decide +kernel
theorem dX0_bySpeaking_3 : decode cX0_bySpeaking 3 = .ok (.istore 4, 2) := by decide +kernel
theorem dX0_bySpeaking_5 : decode cX0_bySpeaking 5 = .ok (.iload 4, 2) := by decide +kernel
theorem dX0_bySpeaking_7 : decode cX0_bySpeaking 7 = .ok (.aload_n 0, 1) := by decide +kernel
theorem dX0_bySpeaking_8 : decode cX0_bySpeaking 8 = .ok (.getfield 135, 3) := by decide +kernel
theorem dX0_bySpeaking_11 : decode cX0_bySpeaking 11 = .ok (.if_icmp .ge 36, 3) := by decide +kernel
theorem dX0_bySpeaking_14 : decode cX0_bySpeaking 14 = .ok (.lload_n 2, 1) := by decide +kernel
theorem dX0_bySpeaking_15 : decode cX0_bySpeaking 15 = .ok (.aload_n 0, 1) := by decide +kernel
theorem dX0_bySpeaking_16 : decode cX0_bySpeaking 16 = .ok (.getfield 15, 3) := by decide +kernel
theorem dX0_bySpeaking_19 : decode cX0_bySpeaking 19 = .ok (.aload_n 0, 1) := by decide +kernel
theorem dX0_bySpeaking_20 : decode cX0_bySpeaking 20 = .ok (.getfield 18, 3) := by decide +kernel
theorem dX0_bySpeaking_23 : decode cX0_bySpeaking 23 = .ok (.iload 4, 2) := by decide +kernel
theorem dX0_bySpeaking_25 : decode cX0_bySpeaking 25 = .ok (.iaload, 1) := by decide +kernel
theorem dX0_bySpeaking_26 : decode cX0_bySpeaking 26 = .ok (.iload_n 1, 1) := by decide +kernel
theorem dX0_bySpeaking_27 : decode cX0_bySpeaking 27 = .ok (.iconst 5, 1) := by decide +kernel
theorem dX0_bySpeaking_28 : decode cX0_bySpeaking 28 = .ok (.imul, 1) := by decide +kernel
theorem dX0_bySpeaking_29 : decode cX0_bySpeaking 29 = .ok (.iadd, 1) := by decide +kernel
theorem dX0_bySpeaking_30 : decode cX0_bySpeaking 30 = .ok (.laload, 1) := by decide +kernel
theorem dX0_bySpeaking_31 : decode cX0_bySpeaking 31 = .ok (.aload_n 0, 1) := by decide +kernel
theorem dX0_bySpeaking_32 : decode cX0_bySpeaking 32 = .ok (.getfield 22, 3) := by decide +kernel
theorem dX0_bySpeaking_35 : decode cX0_bySpeaking 35 = .ok (.iload 4, 2) := by decide +kernel
theorem dX0_bySpeaking_37 : decode cX0_bySpeaking 37 = .ok (.laload, 1) := by decide +kernel
theorem dX0_bySpeaking_38 : decode cX0_bySpeaking 38 = .ok (.land, 1) := by decide +kernel
theorem dX0_bySpeaking_39 : decode cX0_bySpeaking 39 = .ok (.lor, 1) := by decide +kernel
theorem dX0_bySpeaking_40 : decode cX0_bySpeaking 40 = .ok (.lstore_n 2, 1) := by decide +kernel
theorem dX0_bySpeaking_41 : decode cX0_bySpeaking 41 = .ok (.iinc 4 1, 3) := by decide +kernel
theorem dX0_bySpeaking_44 : decode cX0_bySpeaking 44 = .ok (.goto (-39), 3) := by decide +kernel
theorem dX0_bySpeaking_47 : decode cX0_bySpeaking 47 = .ok (.lload_n 2, 1) := by decide +kernel
theorem dX0_bySpeaking_48 : decode cX0_bySpeaking 48 = .ok (.lreturn, 1) := by decide +kernel
theorem dX0_withThrows_0 : decode cX0_withThrows 0 = .ok (.lload_n 0, 1) := by decide +kernel
theorem dX0_withThrows_1 : decode cX0_withThrows 1 = .ok (.lload_n 0, 1) := by decide +kernel
theorem dX0_withThrows_2 : decode cX0_withThrows 2 = .ok (.iconst 1, 1) := by decide +kernel
theorem dX0_withThrows_3 : decode cX0_withThrows 3 = .ok (.lshl, 1) := by decide +kernel
theorem dX0_withThrows_4 : decode cX0_withThrows 4 = .ok (.ldc2_w 138, 3) := by decide +kernel
theorem dX0_withThrows_7 : decode cX0_withThrows 7 = .ok (.land, 1) := by decide +kernel
theorem dX0_withThrows_8 : decode cX0_withThrows 8 = .ok (.lor, 1) := by decide +kernel
theorem dX0_withThrows_9 : decode cX0_withThrows 9 = .ok (.lstore_n 2, 1) := by decide +kernel
theorem dX0_withThrows_10 : decode cX0_withThrows 10 = .ok (.lload_n 2, 1) := by decide +kernel
theorem dX0_withThrows_11 : decode cX0_withThrows 11 = .ok (.lload_n 2, 1) := by decide +kernel
theorem dX0_withThrows_12 : decode cX0_withThrows 12 = .ok (.iconst 2, 1) := by decide +kernel
theorem dX0_withThrows_13 : decode cX0_withThrows 13 = .ok (.lshl, 1) := by decide +kernel
theorem dX0_withThrows_14 : decode cX0_withThrows 14 = .ok (.ldc2_w 140, 3) := by decide +kernel
theorem dX0_withThrows_17 : decode cX0_withThrows 17 = .ok (.land, 1) := by decide +kernel
theorem dX0_withThrows_18 : decode cX0_withThrows 18 = .ok (.lor, 1) := by decide +kernel
theorem dX0_withThrows_19 : decode cX0_withThrows 19 = .ok (.lstore_n 2, 1) := by decide +kernel
theorem dX0_withThrows_20 : decode cX0_withThrows 20 = .ok (.lload_n 2, 1) := by decide +kernel
theorem dX0_withThrows_21 : decode cX0_withThrows 21 = .ok (.lload_n 2, 1) := by decide +kernel
theorem dX0_withThrows_22 : decode cX0_withThrows 22 = .ok (.iconst 4, 1) := by decide +kernel
theorem dX0_withThrows_23 : decode cX0_withThrows 23 = .ok (.lshl, 1) := by decide +kernel
theorem dX0_withThrows_24 : decode cX0_withThrows 24 = .ok (.ldc2_w 142, 3) := by decide +kernel
theorem dX0_withThrows_27 : decode cX0_withThrows 27 = .ok (.land, 1) := by decide +kernel
theorem dX0_withThrows_28 : decode cX0_withThrows 28 = .ok (.lor, 1) := by decide +kernel
theorem dX0_withThrows_29 : decode cX0_withThrows 29 = .ok (.lreturn, 1) := by decide +kernel
theorem dX0_purses_0 : decode cX0_purses 0 = .ok (.iload_n 1, 1) := by decide +kernel
theorem dX0_purses_1 : decode cX0_purses 1 = .ok (.ifCond .ge 5, 3) := by decide +kernel
theorem dX0_purses_4 : decode cX0_purses 4 = .ok (.lconst 0, 1) := by decide +kernel
theorem dX0_purses_5 : decode cX0_purses 5 = .ok (.lreturn, 1) := by decide +kernel
theorem dX0_purses_6 : decode cX0_purses 6 = .ok (.aload_n 0, 1) := by decide +kernel
theorem dX0_purses_7 : decode cX0_purses 7 = .ok (.getfield 11, 3) := by decide +kernel
theorem dX0_purses_10 : decode cX0_purses 10 = .ok (.iload_n 1, 1) := by decide +kernel
theorem dX0_purses_11 : decode cX0_purses 11 = .ok (.bipush 14, 2) := by decide +kernel
theorem dX0_purses_13 : decode cX0_purses 13 = .ok (.if_icmp .ge 7, 3) := by decide +kernel
theorem dX0_purses_16 : decode cX0_purses 16 = .ok (.iload_n 1, 1) := by decide +kernel
theorem dX0_purses_17 : decode cX0_purses 17 = .ok (.goto 5, 3) := by decide +kernel
theorem dX0_purses_20 : decode cX0_purses 20 = .ok (.bipush 14, 2) := by decide +kernel
theorem dX0_purses_22 : decode cX0_purses 22 = .ok (.laload, 1) := by decide +kernel
theorem dX0_purses_23 : decode cX0_purses 23 = .ok (.lreturn, 1) := by decide +kernel
theorem dX0_placeOf_0 : decode cX0_placeOf 0 = .ok (.iload_n 0, 1) := by decide +kernel
theorem dX0_placeOf_1 : decode cX0_placeOf 1 = .ok (.bipush 31, 2) := by decide +kernel
theorem dX0_placeOf_3 : decode cX0_placeOf 3 = .ok (.iand, 1) := by decide +kernel
theorem dX0_placeOf_4 : decode cX0_placeOf 4 = .ok (.iconst 5, 1) := by decide +kernel
theorem dX0_placeOf_5 : decode cX0_placeOf 5 = .ok (.imul, 1) := by decide +kernel
theorem dX0_placeOf_6 : decode cX0_placeOf 6 = .ok (.iload_n 1, 1) := by decide +kernel
theorem dX0_placeOf_7 : decode cX0_placeOf 7 = .ok (.iadd, 1) := by decide +kernel
theorem dX0_placeOf_8 : decode cX0_placeOf 8 = .ok (.iconst 5, 1) := by decide +kernel
theorem dX0_placeOf_9 : decode cX0_placeOf 9 = .ok (.imul, 1) := by decide +kernel
theorem dX0_placeOf_10 : decode cX0_placeOf 10 = .ok (.iload_n 2, 1) := by decide +kernel
theorem dX0_placeOf_11 : decode cX0_placeOf 11 = .ok (.iadd, 1) := by decide +kernel
theorem dX0_placeOf_12 : decode cX0_placeOf 12 = .ok (.ireturn, 1) := by decide +kernel
theorem dX0_swapped_0 : decode cX0_swapped 0 = .ok (.lload_n 0, 1) := by decide +kernel
theorem dX0_swapped_1 : decode cX0_swapped 1 = .ok (.lload_n 0, 1) := by decide +kernel
theorem dX0_swapped_2 : decode cX0_swapped 2 = .ok (.bipush 7, 2) := by decide +kernel
theorem dX0_swapped_4 : decode cX0_swapped 4 = .ok (.lushr, 1) := by decide +kernel
theorem dX0_swapped_5 : decode cX0_swapped 5 = .ok (.lxor, 1) := by decide +kernel
theorem dX0_swapped_6 : decode cX0_swapped 6 = .ok (.ldc2_w 144, 3) := by decide +kernel
theorem dX0_swapped_9 : decode cX0_swapped 9 = .ok (.land, 1) := by decide +kernel
theorem dX0_swapped_10 : decode cX0_swapped 10 = .ok (.lstore_n 2, 1) := by decide +kernel
theorem dX0_swapped_11 : decode cX0_swapped 11 = .ok (.lload_n 0, 1) := by decide +kernel
theorem dX0_swapped_12 : decode cX0_swapped 12 = .ok (.lload_n 2, 1) := by decide +kernel
theorem dX0_swapped_13 : decode cX0_swapped 13 = .ok (.lxor, 1) := by decide +kernel
theorem dX0_swapped_14 : decode cX0_swapped 14 = .ok (.lload_n 2, 1) := by decide +kernel
theorem dX0_swapped_15 : decode cX0_swapped 15 = .ok (.bipush 7, 2) := by decide +kernel
theorem dX0_swapped_17 : decode cX0_swapped 17 = .ok (.lshl, 1) := by decide +kernel
theorem dX0_swapped_18 : decode cX0_swapped 18 = .ok (.lxor, 1) := by decide +kernel
theorem dX0_swapped_19 : decode cX0_swapped 19 = .ok (.lstore 4, 2) := by decide +kernel
theorem dX0_swapped_21 : decode cX0_swapped 21 = .ok (.lload 4, 2) := by decide +kernel
theorem dX0_swapped_23 : decode cX0_swapped 23 = .ok (.lload 4, 2) := by decide +kernel
theorem dX0_swapped_25 : decode cX0_swapped 25 = .ok (.bipush 14, 2) := by decide +kernel
theorem dX0_swapped_27 : decode cX0_swapped 27 = .ok (.lushr, 1) := by decide +kernel
theorem dX0_swapped_28 : decode cX0_swapped 28 = .ok (.lxor, 1) := by decide +kernel
theorem dX0_swapped_29 : decode cX0_swapped 29 = .ok (.ldc2_w 146, 3) := by decide +kernel
theorem dX0_swapped_32 : decode cX0_swapped 32 = .ok (.land, 1) := by decide +kernel
theorem dX0_swapped_33 : decode cX0_swapped 33 = .ok (.lstore 6, 2) := by decide +kernel
theorem dX0_swapped_35 : decode cX0_swapped 35 = .ok (.lload 4, 2) := by decide +kernel
theorem dX0_swapped_37 : decode cX0_swapped 37 = .ok (.lload 6, 2) := by decide +kernel
theorem dX0_swapped_39 : decode cX0_swapped 39 = .ok (.lxor, 1) := by decide +kernel
theorem dX0_swapped_40 : decode cX0_swapped 40 = .ok (.lload 6, 2) := by decide +kernel
theorem dX0_swapped_42 : decode cX0_swapped 42 = .ok (.bipush 14, 2) := by decide +kernel
theorem dX0_swapped_44 : decode cX0_swapped 44 = .ok (.lshl, 1) := by decide +kernel
theorem dX0_swapped_45 : decode cX0_swapped 45 = .ok (.lxor, 1) := by decide +kernel
theorem dX0_swapped_46 : decode cX0_swapped 46 = .ok (.lstore 8, 2) := by decide +kernel
theorem dX0_swapped_48 : decode cX0_swapped 48 = .ok (.lload 8, 2) := by decide +kernel
theorem dX0_swapped_50 : decode cX0_swapped 50 = .ok (.lload 8, 2) := by decide +kernel
theorem dX0_swapped_52 : decode cX0_swapped 52 = .ok (.bipush 28, 2) := by decide +kernel
theorem dX0_swapped_54 : decode cX0_swapped 54 = .ok (.lushr, 1) := by decide +kernel
theorem dX0_swapped_55 : decode cX0_swapped 55 = .ok (.lxor, 1) := by decide +kernel
theorem dX0_swapped_56 : decode cX0_swapped 56 = .ok (.ldc2_w 148, 3) := by decide +kernel
theorem dX0_swapped_59 : decode cX0_swapped 59 = .ok (.land, 1) := by decide +kernel
theorem dX0_swapped_60 : decode cX0_swapped 60 = .ok (.lstore 10, 2) := by decide +kernel
theorem dX0_swapped_62 : decode cX0_swapped 62 = .ok (.lload 8, 2) := by decide +kernel
theorem dX0_swapped_64 : decode cX0_swapped 64 = .ok (.lload 10, 2) := by decide +kernel
theorem dX0_swapped_66 : decode cX0_swapped 66 = .ok (.lxor, 1) := by decide +kernel
theorem dX0_swapped_67 : decode cX0_swapped 67 = .ok (.lload 10, 2) := by decide +kernel
theorem dX0_swapped_69 : decode cX0_swapped 69 = .ok (.bipush 28, 2) := by decide +kernel
theorem dX0_swapped_71 : decode cX0_swapped 71 = .ok (.lshl, 1) := by decide +kernel
theorem dX0_swapped_72 : decode cX0_swapped 72 = .ok (.lxor, 1) := by decide +kernel
theorem dX0_swapped_73 : decode cX0_swapped 73 = .ok (.lreturn, 1) := by decide +kernel
theorem dX1_init_0 : decode cX1_init 0 = .ok (.aload_n 0, 1) := by decide +kernel
theorem dX1_init_1 : decode cX1_init 1 = .ok (.invokespecial 3, 3) := by decide +kernel
theorem dX1_init_4 : decode cX1_init 4 = .ok (.aload_n 0, 1) := by decide +kernel
theorem dX1_init_5 : decode cX1_init 5 = .ok (.iconst 4, 1) := by decide +kernel
theorem dX1_init_6 : decode cX1_init 6 = .ok (.newarray .int, 2) := by decide +kernel
theorem dX1_init_8 : decode cX1_init 8 = .ok (.putfield 9, 3) := by decide +kernel
theorem dX1_init_11 : decode cX1_init 11 = .ok (.aload_n 0, 1) := by decide +kernel
theorem dX1_init_12 : decode cX1_init 12 = .ok (.iconst 4, 1) := by decide +kernel
theorem dX1_init_13 : decode cX1_init 13 = .ok (.newarray .int, 2) := by decide +kernel
theorem dX1_init_15 : decode cX1_init 15 = .ok (.putfield 15, 3) := by decide +kernel
theorem dX1_init_18 : decode cX1_init 18 = .ok (.aload_n 0, 1) := by decide +kernel
theorem dX1_init_19 : decode cX1_init 19 = .ok (.iconst 2, 1) := by decide +kernel
theorem dX1_init_20 : decode cX1_init 20 = .ok (.newarray .int, 2) := by decide +kernel
theorem dX1_init_22 : decode cX1_init 22 = .ok (.putfield 18, 3) := by decide +kernel
theorem dX1_init_25 : decode cX1_init 25 = .ok (.return_, 1) := by decide +kernel
theorem dX1_copyFrom_0 : decode cX1_copyFrom 0 = .ok (.aload_n 0, 1) := by decide +kernel
theorem dX1_copyFrom_1 : decode cX1_copyFrom 1 = .ok (.aload_n 1, 1) := by decide +kernel
theorem dX1_copyFrom_2 : decode cX1_copyFrom 2 = .ok (.getfield 21, 3) := by decide +kernel
theorem dX1_copyFrom_5 : decode cX1_copyFrom 5 = .ok (.putfield 21, 3) := by decide +kernel
theorem dX1_copyFrom_8 : decode cX1_copyFrom 8 = .ok (.aload_n 0, 1) := by decide +kernel
theorem dX1_copyFrom_9 : decode cX1_copyFrom 9 = .ok (.aload_n 1, 1) := by decide +kernel
theorem dX1_copyFrom_10 : decode cX1_copyFrom 10 = .ok (.getfield 25, 3) := by decide +kernel
theorem dX1_copyFrom_13 : decode cX1_copyFrom 13 = .ok (.putfield 25, 3) := by decide +kernel
theorem dX1_copyFrom_16 : decode cX1_copyFrom 16 = .ok (.aload_n 0, 1) := by decide +kernel
theorem dX1_copyFrom_17 : decode cX1_copyFrom 17 = .ok (.aload_n 1, 1) := by decide +kernel
theorem dX1_copyFrom_18 : decode cX1_copyFrom 18 = .ok (.getfield 28, 3) := by decide +kernel
theorem dX1_copyFrom_21 : decode cX1_copyFrom 21 = .ok (.putfield 28, 3) := by decide +kernel
theorem dX1_copyFrom_24 : decode cX1_copyFrom 24 = .ok (.aload_n 1, 1) := by decide +kernel
theorem dX1_copyFrom_25 : decode cX1_copyFrom 25 = .ok (.getfield 9, 3) := by decide +kernel
theorem dX1_copyFrom_28 : decode cX1_copyFrom 28 = .ok (.iconst 0, 1) := by decide +kernel
theorem dX1_copyFrom_29 : decode cX1_copyFrom 29 = .ok (.aload_n 0, 1) := by decide +kernel
theorem dX1_copyFrom_30 : decode cX1_copyFrom 30 = .ok (.getfield 9, 3) := by decide +kernel
theorem dX1_copyFrom_33 : decode cX1_copyFrom 33 = .ok (.iconst 0, 1) := by decide +kernel
theorem dX1_copyFrom_34 : decode cX1_copyFrom 34 = .ok (.iconst 4, 1) := by decide +kernel
theorem dX1_copyFrom_35 : decode cX1_copyFrom 35 = .ok (.invokestatic 31, 3) := by decide +kernel
theorem dX1_copyFrom_38 : decode cX1_copyFrom 38 = .ok (.aload_n 1, 1) := by decide +kernel
theorem dX1_copyFrom_39 : decode cX1_copyFrom 39 = .ok (.getfield 15, 3) := by decide +kernel
theorem dX1_copyFrom_42 : decode cX1_copyFrom 42 = .ok (.iconst 0, 1) := by decide +kernel
theorem dX1_copyFrom_43 : decode cX1_copyFrom 43 = .ok (.aload_n 0, 1) := by decide +kernel
theorem dX1_copyFrom_44 : decode cX1_copyFrom 44 = .ok (.getfield 15, 3) := by decide +kernel
theorem dX1_copyFrom_47 : decode cX1_copyFrom 47 = .ok (.iconst 0, 1) := by decide +kernel
theorem dX1_copyFrom_48 : decode cX1_copyFrom 48 = .ok (.iconst 4, 1) := by decide +kernel
theorem dX1_copyFrom_49 : decode cX1_copyFrom 49 = .ok (.invokestatic 31, 3) := by decide +kernel
theorem dX1_copyFrom_52 : decode cX1_copyFrom 52 = .ok (.aload_n 1, 1) := by decide +kernel
theorem dX1_copyFrom_53 : decode cX1_copyFrom 53 = .ok (.getfield 18, 3) := by decide +kernel
theorem dX1_copyFrom_56 : decode cX1_copyFrom 56 = .ok (.iconst 0, 1) := by decide +kernel
theorem dX1_copyFrom_57 : decode cX1_copyFrom 57 = .ok (.aload_n 0, 1) := by decide +kernel
theorem dX1_copyFrom_58 : decode cX1_copyFrom 58 = .ok (.getfield 18, 3) := by decide +kernel
theorem dX1_copyFrom_61 : decode cX1_copyFrom 61 = .ok (.iconst 0, 1) := by decide +kernel
theorem dX1_copyFrom_62 : decode cX1_copyFrom 62 = .ok (.iconst 2, 1) := by decide +kernel
theorem dX1_copyFrom_63 : decode cX1_copyFrom 63 = .ok (.invokestatic 31, 3) := by decide +kernel
theorem dX1_copyFrom_66 : decode cX1_copyFrom 66 = .ok (.return_, 1) := by decide +kernel
theorem dX1_hasTune_0 : decode cX1_hasTune 0 = .ok (.iload_n 1, 1) := by decide +kernel
theorem dX1_hasTune_1 : decode cX1_hasTune 1 = .ok (.ifCond .lt 20, 3) := by decide +kernel
theorem dX1_hasTune_4 : decode cX1_hasTune 4 = .ok (.iload_n 1, 1) := by decide +kernel
theorem dX1_hasTune_5 : decode cX1_hasTune 5 = .ok (.aload_n 0, 1) := by decide +kernel
theorem dX1_hasTune_6 : decode cX1_hasTune 6 = .ok (.getfield 21, 3) := by decide +kernel
theorem dX1_hasTune_9 : decode cX1_hasTune 9 = .ok (.if_icmp .ge 12, 3) := by decide +kernel
theorem dX1_hasTune_12 : decode cX1_hasTune 12 = .ok (.iload_n 1, 1) := by decide +kernel
theorem dX1_hasTune_13 : decode cX1_hasTune 13 = .ok (.iconst 4, 1) := by decide +kernel
theorem dX1_hasTune_14 : decode cX1_hasTune 14 = .ok (.if_icmp .ge 7, 3) := by decide +kernel
theorem dX1_hasTune_17 : decode cX1_hasTune 17 = .ok (.iconst 1, 1) := by decide +kernel
theorem dX1_hasTune_18 : decode cX1_hasTune 18 = .ok (.goto 4, 3) := by decide +kernel
theorem dX1_hasTune_21 : decode cX1_hasTune 21 = .ok (.iconst 0, 1) := by decide +kernel
theorem dX1_hasTune_22 : decode cX1_hasTune 22 = .ok (.ireturn, 1) := by decide +kernel
theorem dX1_hasWord_0 : decode cX1_hasWord 0 = .ok (.iload_n 1, 1) := by decide +kernel
theorem dX1_hasWord_1 : decode cX1_hasWord 1 = .ok (.ifCond .lt 20, 3) := by decide +kernel
theorem dX1_hasWord_4 : decode cX1_hasWord 4 = .ok (.iload_n 1, 1) := by decide +kernel
theorem dX1_hasWord_5 : decode cX1_hasWord 5 = .ok (.aload_n 0, 1) := by decide +kernel
theorem dX1_hasWord_6 : decode cX1_hasWord 6 = .ok (.getfield 25, 3) := by decide +kernel
theorem dX1_hasWord_9 : decode cX1_hasWord 9 = .ok (.if_icmp .ge 12, 3) := by decide +kernel
theorem dX1_hasWord_12 : decode cX1_hasWord 12 = .ok (.iload_n 1, 1) := by decide +kernel
theorem dX1_hasWord_13 : decode cX1_hasWord 13 = .ok (.iconst 4, 1) := by decide +kernel
theorem dX1_hasWord_14 : decode cX1_hasWord 14 = .ok (.if_icmp .ge 7, 3) := by decide +kernel
theorem dX1_hasWord_17 : decode cX1_hasWord 17 = .ok (.iconst 1, 1) := by decide +kernel
theorem dX1_hasWord_18 : decode cX1_hasWord 18 = .ok (.goto 4, 3) := by decide +kernel
theorem dX1_hasWord_21 : decode cX1_hasWord 21 = .ok (.iconst 0, 1) := by decide +kernel
theorem dX1_hasWord_22 : decode cX1_hasWord 22 = .ok (.ireturn, 1) := by decide +kernel
set_option maxRecDepth 20000 in
theorem ggX1_verseOf_X1_hasTune : GoodIn wsX1_verseOf wsX1_hasTune := goodIn_r _ [6, 7, 8, 9, 10, 11, 12, 13] (by decide +kernel) (by decide +kernel)
set_option maxRecDepth 20000 in
theorem gX1_verseOf_X1_hasTune : GoodIn wsX1_verseOf (wsV RX1 37 RX1 yX1_hasTune wsX1_hasTune) := goodIn_app (goodIn_of _ (by decide +kernel)) ggX1_verseOf_X1_hasTune
theorem dX1_verseOf_0 : decode cX1_verseOf 0 = .ok (.aload_n 0, 1) := by decide +kernel
theorem dX1_verseOf_1 : decode cX1_verseOf 1 = .ok (.iload_n 1, 1) := by decide +kernel
theorem dX1_verseOf_2 : decode cX1_verseOf 2 = .ok (.invokevirtual 37, 3) := by decide +kernel
theorem dX1_verseOf_5 : decode cX1_verseOf 5 = .ok (.ifCond .eq 12, 3) := by decide +kernel
theorem dX1_verseOf_8 : decode cX1_verseOf 8 = .ok (.aload_n 0, 1) := by decide +kernel
theorem dX1_verseOf_9 : decode cX1_verseOf 9 = .ok (.getfield 9, 3) := by decide +kernel
theorem dX1_verseOf_12 : decode cX1_verseOf 12 = .ok (.iload_n 1, 1) := by decide +kernel
theorem dX1_verseOf_13 : decode cX1_verseOf 13 = .ok (.iaload, 1) := by decide +kernel
theorem dX1_verseOf_14 : decode cX1_verseOf 14 = .ok (.goto 4, 3) := by decide +kernel
theorem dX1_verseOf_17 : decode cX1_verseOf 17 = .ok (.iconst 1, 1) := by decide +kernel
theorem dX1_verseOf_18 : decode cX1_verseOf 18 = .ok (.ireturn, 1) := by decide +kernel
theorem dX1_cost_0 : decode cX1_cost 0 = .ok (.iload_n 1, 1) := by decide +kernel
theorem dX1_cost_1 : decode cX1_cost 1 = .ok (.ifCond .lt 16, 3) := by decide +kernel
theorem dX1_cost_4 : decode cX1_cost 4 = .ok (.iload_n 1, 1) := by decide +kernel
theorem dX1_cost_5 : decode cX1_cost 5 = .ok (.aload_n 0, 1) := by decide +kernel
theorem dX1_cost_6 : decode cX1_cost 6 = .ok (.getfield 25, 3) := by decide +kernel
theorem dX1_cost_9 : decode cX1_cost 9 = .ok (.if_icmp .ge 8, 3) := by decide +kernel
theorem dX1_cost_12 : decode cX1_cost 12 = .ok (.iload_n 1, 1) := by decide +kernel
theorem dX1_cost_13 : decode cX1_cost 13 = .ok (.iconst 4, 1) := by decide +kernel
theorem dX1_cost_14 : decode cX1_cost 14 = .ok (.if_icmp .lt 7, 3) := by decide +kernel
theorem dX1_cost_17 : decode cX1_cost 17 = .ok (.sipush 1000, 3) := by decide +kernel
theorem dX1_cost_20 : decode cX1_cost 20 = .ok (.ireturn, 1) := by decide +kernel
theorem dX1_cost_21 : decode cX1_cost 21 = .ok (.iload_n 1, 1) := by decide +kernel
theorem dX1_cost_22 : decode cX1_cost 22 = .ok (.iload_n 2, 1) := by decide +kernel
theorem dX1_cost_23 : decode cX1_cost 23 = .ok (.if_icmp .ne 17, 3) := by decide +kernel
theorem dX1_cost_26 : decode cX1_cost 26 = .ok (.aload_n 0, 1) := by decide +kernel
theorem dX1_cost_27 : decode cX1_cost 27 = .ok (.getfield 15, 3) := by decide +kernel
theorem dX1_cost_30 : decode cX1_cost 30 = .ok (.iload_n 1, 1) := by decide +kernel
theorem dX1_cost_31 : decode cX1_cost 31 = .ok (.iaload, 1) := by decide +kernel
theorem dX1_cost_32 : decode cX1_cost 32 = .ok (.aload_n 0, 1) := by decide +kernel
theorem dX1_cost_33 : decode cX1_cost 33 = .ok (.getfield 28, 3) := by decide +kernel
theorem dX1_cost_36 : decode cX1_cost 36 = .ok (.iadd, 1) := by decide +kernel
theorem dX1_cost_37 : decode cX1_cost 37 = .ok (.goto 9, 3) := by decide +kernel
theorem dX1_cost_40 : decode cX1_cost 40 = .ok (.aload_n 0, 1) := by decide +kernel
theorem dX1_cost_41 : decode cX1_cost 41 = .ok (.getfield 15, 3) := by decide +kernel
theorem dX1_cost_44 : decode cX1_cost 44 = .ok (.iload_n 1, 1) := by decide +kernel
theorem dX1_cost_45 : decode cX1_cost 45 = .ok (.iaload, 1) := by decide +kernel
theorem dX1_cost_46 : decode cX1_cost 46 = .ok (.ireturn, 1) := by decide +kernel
set_option maxRecDepth 20000 in
theorem ggX1_anyWordFits_X1_cost : GoodIn wsX1_anyWordFits wsX1_cost := goodIn_r _ [6, 1, 7, 8, 9, 10, 11, 12, 13, 14] (by decide +kernel) (by decide +kernel)
set_option maxRecDepth 20000 in
theorem gX1_anyWordFits_X1_cost : GoodIn wsX1_anyWordFits (wsV RX1 41 RX1 yX1_cost wsX1_cost) := goodIn_app (goodIn_of _ (by decide +kernel)) ggX1_anyWordFits_X1_cost
theorem dX1_anyWordFits_0 : decode cX1_anyWordFits 0 = .ok (.iconst 0, 1) := by decide +kernel
theorem dX1_anyWordFits_1 : decode cX1_anyWordFits 1 = .ok (.istore_n 3, 1) := by decide +kernel
theorem dX1_anyWordFits_2 : decode cX1_anyWordFits 2 = .ok (.iload_n 3, 1) := by decide +kernel
theorem dX1_anyWordFits_3 : decode cX1_anyWordFits 3 = .ok (.aload_n 0, 1) := by decide +kernel
theorem dX1_anyWordFits_4 : decode cX1_anyWordFits 4 = .ok (.getfield 25, 3) := by decide +kernel
theorem dX1_anyWordFits_7 : decode cX1_anyWordFits 7 = .ok (.if_icmp .ge 21, 3) := by decide +kernel
theorem dX1_anyWordFits_10 : decode cX1_anyWordFits 10 = .ok (.aload_n 0, 1) := by decide +kernel
theorem dX1_anyWordFits_11 : decode cX1_anyWordFits 11 = .ok (.iload_n 3, 1) := by decide +kernel
theorem dX1_anyWordFits_12 : decode cX1_anyWordFits 12 = .ok (.iload_n 1, 1) := by decide +kernel
theorem dX1_anyWordFits_13 : decode cX1_anyWordFits 13 = .ok (.invokevirtual 41, 3) := by decide +kernel
theorem dX1_anyWordFits_16 : decode cX1_anyWordFits 16 = .ok (.iload_n 2, 1) := by decide +kernel
theorem dX1_anyWordFits_17 : decode cX1_anyWordFits 17 = .ok (.if_icmp .gt 5, 3) := by decide +kernel
theorem dX1_anyWordFits_20 : decode cX1_anyWordFits 20 = .ok (.iconst 1, 1) := by decide +kernel
theorem dX1_anyWordFits_21 : decode cX1_anyWordFits 21 = .ok (.ireturn, 1) := by decide +kernel
theorem dX1_anyWordFits_22 : decode cX1_anyWordFits 22 = .ok (.iinc 3 1, 3) := by decide +kernel
theorem dX1_anyWordFits_25 : decode cX1_anyWordFits 25 = .ok (.goto (-23), 3) := by decide +kernel
theorem dX1_anyWordFits_28 : decode cX1_anyWordFits 28 = .ok (.iconst 0, 1) := by decide +kernel
theorem dX1_anyWordFits_29 : decode cX1_anyWordFits 29 = .ok (.ireturn, 1) := by decide +kernel
theorem dX2_init_0 : decode cX2_init 0 = .ok (.aload_n 0, 1) := by decide +kernel
theorem dX2_init_1 : decode cX2_init 1 = .ok (.invokespecial 3, 3) := by decide +kernel
theorem dX2_init_4 : decode cX2_init 4 = .ok (.aload_n 0, 1) := by decide +kernel
theorem dX2_init_5 : decode cX2_init 5 = .ok (.aload_n 1, 1) := by decide +kernel
theorem dX2_init_6 : decode cX2_init 6 = .ok (.putfield 9, 3) := by decide +kernel
theorem dX2_init_9 : decode cX2_init 9 = .ok (.aload_n 0, 1) := by decide +kernel
theorem dX2_init_10 : decode cX2_init 10 = .ok (.aload_n 2, 1) := by decide +kernel
theorem dX2_init_11 : decode cX2_init 11 = .ok (.putfield 15, 3) := by decide +kernel
theorem dX2_init_14 : decode cX2_init 14 = .ok (.return_, 1) := by decide +kernel
set_option maxRecDepth 20000 in
theorem ggX2_read_X7_advance : GoodIn wsX2_read wsX7_advance := goodIn_r _ [16, 17, 18, 19, 20, 21, 22, 23, 15, 24, 25, 26, 27, 28, 29, 30, 31, 32, 33, 34, 35, 36, 37, 38, 39, 40, 41, 148, 149, 150, 151, 152, 153, 154, 155] (by decide +kernel) (by decide +kernel)
set_option maxRecDepth 20000 in
theorem gX2_read_X7_advance : GoodIn wsX2_read (wsV RX2 35 RX7 yX7_advance wsX7_advance) := goodIn_app (goodIn_of _ (by decide +kernel)) ggX2_read_X7_advance
set_option maxRecDepth 20000 in
theorem ggX2_read_X2_readClause : GoodIn wsX2_read wsX2_readClause := goodIn_r _ [46, 6, 47, 48, 49, 15, 50, 21, 17, 18, 20, 51, 52, 53, 54, 55, 56, 57, 58, 59, 60, 61, 62, 63, 64, 65, 66, 67, 68, 69, 70, 71, 72, 73, 74, 75, 76, 77, 78, 79, 80, 81, 82, 83, 84, 85, 86, 87, 88, 89, 90, 91, 92, 93, 94, 95, 96, 97, 98, 99, 100, 101, 102, 45, 103, 1, 2, 11, 104, 105, 106, 107, 108, 109, 12, 13, 14, 16, 19, 22, 23, 24, 25, 26, 27, 28, 29, 30, 31, 32, 33, 34, 35, 36, 37, 38, 39, 40, 41, 110, 111, 112, 113, 114, 115, 116, 117, 118, 119, 3, 120, 121, 122, 123, 124, 5, 125, 126, 127, 128, 129, 130, 131, 4, 140, 141, 148, 149, 150, 151, 152, 153, 154, 155, 142, 143, 144, 145, 146, 147] (by decide +kernel) (by decide +kernel)
set_option maxRecDepth 20000 in
theorem gX2_read_X2_readClause : GoodIn wsX2_read (wsV RX2 40 RX2 yX2_readClause wsX2_readClause) := goodIn_app (goodIn_of _ (by decide +kernel)) ggX2_read_X2_readClause
set_option maxRecDepth 20000 in
theorem ggX2_read_X7_goesOnToClause : GoodIn wsX2_read wsX7_goesOnToClause := goodIn_r _ [135, 109, 21, 136, 137, 138, 15, 139, 41, 114, 106, 107, 108, 18, 115, 13, 14, 16, 17, 19, 20, 22, 23, 24, 25, 26, 27, 28, 29, 30, 31, 32, 33, 34, 35, 36, 37, 38, 39, 40, 148, 149, 150, 151, 152, 153, 154, 155] (by decide +kernel) (by decide +kernel)
set_option maxRecDepth 20000 in
theorem gX2_read_X7_goesOnToClause : GoodIn wsX2_read (wsV RX2 44 RX7 yX7_goesOnToClause wsX7_goesOnToClause) := goodIn_app (goodIn_of _ (by decide +kernel)) ggX2_read_X7_goesOnToClause
set_option maxRecDepth 20000 in
theorem ggX2_read_X7_fail : GoodIn wsX2_read wsX7_fail := goodIn_r _ [108, 109, 18, 148, 149, 150, 151, 152, 153, 154, 155] (by decide +kernel) (by decide +kernel)
set_option maxRecDepth 20000 in
theorem gX2_read_X7_fail : GoodIn wsX2_read (wsV RX2 48 RX7 yX7_fail wsX7_fail) := goodIn_app (goodIn_of _ (by decide +kernel)) ggX2_read_X7_fail
theorem dX2_read_0 : decode cX2_read 0 = .ok (.aload_n 0, 1) := by decide +kernel
theorem dX2_read_1 : decode cX2_read 1 = .ok (.getfield 15, 3) := by decide +kernel
theorem dX2_read_4 : decode cX2_read 4 = .ok (.iconst 0, 1) := by decide +kernel
theorem dX2_read_5 : decode cX2_read 5 = .ok (.putfield 19, 3) := by decide +kernel
theorem dX2_read_8 : decode cX2_read 8 = .ok (.aload_n 0, 1) := by decide +kernel
theorem dX2_read_9 : decode cX2_read 9 = .ok (.getfield 15, 3) := by decide +kernel
theorem dX2_read_12 : decode cX2_read 12 = .ok (.iconst 0, 1) := by decide +kernel
theorem dX2_read_13 : decode cX2_read 13 = .ok (.putfield 25, 3) := by decide +kernel
theorem dX2_read_16 : decode cX2_read 16 = .ok (.aload_n 0, 1) := by decide +kernel
theorem dX2_read_17 : decode cX2_read 17 = .ok (.getfield 15, 3) := by decide +kernel
theorem dX2_read_20 : decode cX2_read 20 = .ok (.iconst (-1), 1) := by decide +kernel
theorem dX2_read_21 : decode cX2_read 21 = .ok (.putfield 28, 3) := by decide +kernel
theorem dX2_read_24 : decode cX2_read 24 = .ok (.aload_n 0, 1) := by decide +kernel
theorem dX2_read_25 : decode cX2_read 25 = .ok (.getfield 15, 3) := by decide +kernel
theorem dX2_read_28 : decode cX2_read 28 = .ok (.getfield 31, 3) := by decide +kernel
theorem dX2_read_31 : decode cX2_read 31 = .ok (.iconst 0, 1) := by decide +kernel
theorem dX2_read_32 : decode cX2_read 32 = .ok (.iconst 0, 1) := by decide +kernel
theorem dX2_read_33 : decode cX2_read 33 = .ok (.iastore, 1) := by decide +kernel
theorem dX2_read_34 : decode cX2_read 34 = .ok (.aload_n 0, 1) := by decide +kernel
theorem dX2_read_35 : decode cX2_read 35 = .ok (.getfield 15, 3) := by decide +kernel
theorem dX2_read_38 : decode cX2_read 38 = .ok (.getfield 31, 3) := by decide +kernel
theorem dX2_read_41 : decode cX2_read 41 = .ok (.iconst 1, 1) := by decide +kernel
theorem dX2_read_42 : decode cX2_read 42 = .ok (.iconst 0, 1) := by decide +kernel
theorem dX2_read_43 : decode cX2_read 43 = .ok (.iastore, 1) := by decide +kernel
theorem dX2_read_44 : decode cX2_read 44 = .ok (.aload_n 0, 1) := by decide +kernel
theorem dX2_read_45 : decode cX2_read 45 = .ok (.getfield 9, 3) := by decide +kernel
theorem dX2_read_48 : decode cX2_read 48 = .ok (.invokevirtual 35, 3) := by decide +kernel
theorem dX2_read_51 : decode cX2_read 51 = .ok (.iconst 1, 1) := by decide +kernel
theorem dX2_read_52 : decode cX2_read 52 = .ok (.istore_n 1, 1) := by decide +kernel
theorem dX2_read_53 : decode cX2_read 53 = .ok (.iconst 0, 1) := by decide +kernel
theorem dX2_read_54 : decode cX2_read 54 = .ok (.istore_n 2, 1) := by decide +kernel
theorem dX2_read_55 : decode cX2_read 55 = .ok (.iload_n 2, 1) := by decide +kernel
theorem dX2_read_56 : decode cX2_read 56 = .ok (.bipush 16, 2) := by decide +kernel
theorem dX2_read_58 : decode cX2_read 58 = .ok (.if_icmp .gt 36, 3) := by decide +kernel
theorem dX2_read_61 : decode cX2_read 61 = .ok (.iload_n 1, 1) := by decide +kernel
theorem dX2_read_62 : decode cX2_read 62 = .ok (.ifCond .eq 32, 3) := by decide +kernel
theorem dX2_read_65 : decode cX2_read 65 = .ok (.aload_n 0, 1) := by decide +kernel
theorem dX2_read_66 : decode cX2_read 66 = .ok (.iload_n 2, 1) := by decide +kernel
theorem dX2_read_67 : decode cX2_read 67 = .ok (.bipush 16, 2) := by decide +kernel
theorem dX2_read_69 : decode cX2_read 69 = .ok (.if_icmp .ne 7, 3) := by decide +kernel
theorem dX2_read_72 : decode cX2_read 72 = .ok (.iconst 1, 1) := by decide +kernel
theorem dX2_read_73 : decode cX2_read 73 = .ok (.goto 4, 3) := by decide +kernel
theorem dX2_read_76 : decode cX2_read 76 = .ok (.iconst 0, 1) := by decide +kernel
theorem dX2_read_77 : decode cX2_read 77 = .ok (.invokevirtual 40, 3) := by decide +kernel
theorem dX2_read_80 : decode cX2_read 80 = .ok (.aload_n 0, 1) := by decide +kernel
theorem dX2_read_81 : decode cX2_read 81 = .ok (.getfield 9, 3) := by decide +kernel
theorem dX2_read_84 : decode cX2_read 84 = .ok (.invokevirtual 44, 3) := by decide +kernel
theorem dX2_read_87 : decode cX2_read 87 = .ok (.istore_n 1, 1) := by decide +kernel
theorem dX2_read_88 : decode cX2_read 88 = .ok (.iinc 2 1, 3) := by decide +kernel
theorem dX2_read_91 : decode cX2_read 91 = .ok (.goto (-36), 3) := by decide +kernel
theorem dX2_read_94 : decode cX2_read 94 = .ok (.aload_n 0, 1) := by decide +kernel
theorem dX2_read_95 : decode cX2_read 95 = .ok (.getfield 15, 3) := by decide +kernel
theorem dX2_read_98 : decode cX2_read 98 = .ok (.getfield 19, 3) := by decide +kernel
theorem dX2_read_101 : decode cX2_read 101 = .ok (.ifCond .eq 13, 3) := by decide +kernel
theorem dX2_read_104 : decode cX2_read 104 = .ok (.aload_n 0, 1) := by decide +kernel
theorem dX2_read_105 : decode cX2_read 105 = .ok (.getfield 15, 3) := by decide +kernel
theorem dX2_read_108 : decode cX2_read 108 = .ok (.getfield 25, 3) := by decide +kernel
theorem dX2_read_111 : decode cX2_read 111 = .ok (.ifCond .ne 11, 3) := by decide +kernel
theorem dX2_read_114 : decode cX2_read 114 = .ok (.aload_n 0, 1) := by decide +kernel
theorem dX2_read_115 : decode cX2_read 115 = .ok (.getfield 9, 3) := by decide +kernel
theorem dX2_read_118 : decode cX2_read 118 = .ok (.iconst 0, 1) := by decide +kernel
theorem dX2_read_119 : decode cX2_read 119 = .ok (.invokevirtual 48, 3) := by decide +kernel
theorem dX2_read_122 : decode cX2_read 122 = .ok (.aload_n 0, 1) := by decide +kernel
theorem dX2_read_123 : decode cX2_read 123 = .ok (.getfield 15, 3) := by decide +kernel
theorem dX2_read_126 : decode cX2_read 126 = .ok (.iconst 0, 1) := by decide +kernel
theorem dX2_read_127 : decode cX2_read 127 = .ok (.aload_n 0, 1) := by decide +kernel
theorem dX2_read_128 : decode cX2_read 128 = .ok (.getfield 15, 3) := by decide +kernel
theorem dX2_read_131 : decode cX2_read 131 = .ok (.getfield 28, 3) := by decide +kernel
theorem dX2_read_134 : decode cX2_read 134 = .ok (.invokestatic 52, 3) := by decide +kernel
theorem dX2_read_137 : decode cX2_read 137 = .ok (.putfield 28, 3) := by decide +kernel
theorem dX2_read_140 : decode cX2_read 140 = .ok (.aload_n 0, 1) := by decide +kernel
theorem dX2_read_141 : decode cX2_read 141 = .ok (.getfield 9, 3) := by decide +kernel
theorem dX2_read_144 : decode cX2_read 144 = .ok (.getfield 58, 3) := by decide +kernel
theorem dX2_read_147 : decode cX2_read 147 = .ok (.ireturn, 1) := by decide +kernel
set_option maxRecDepth 20000 in
theorem ggX2_readClause_X7_nameAmong : GoodIn wsX2_readClause wsX7_nameAmong := goodIn_r _ [6, 7, 8, 9, 10, 11, 12, 13, 14, 15, 16, 17, 18, 19, 20, 21, 22, 23, 24, 25, 26, 27, 28, 29, 30, 31, 32, 33, 34, 35, 36, 37, 38, 39, 40, 41, 42, 43, 44, 45, 46, 47, 48, 49, 50, 51, 52, 53, 54, 55, 56, 57, 58, 59, 126, 127, 128, 129, 130, 131, 132, 133] (by decide +kernel) (by decide +kernel)
set_option maxRecDepth 20000 in
theorem gX2_readClause_X7_nameAmong : GoodIn wsX2_readClause (wsV RX2 63 RX7 yX7_nameAmong wsX7_nameAmong) := goodIn_app (goodIn_of _ (by decide +kernel)) ggX2_readClause_X7_nameAmong
set_option maxRecDepth 20000 in
theorem ggX2_readClause_X2_readTune : GoodIn wsX2_readClause wsX2_readTune := goodIn_r _ [64, 65, 66, 1, 67, 68, 69, 70, 71, 5, 72, 73, 9, 74, 75, 76, 77, 8, 78, 10, 7, 79, 80, 81, 82, 83, 84, 85, 86, 87, 88, 89, 90, 91, 92, 93, 94, 95, 96, 97, 98, 99, 100, 101, 102, 103, 104, 124, 125, 134, 135, 136, 137, 138, 139, 126, 127, 128, 129, 130, 131, 132, 133] (by decide +kernel) (by decide +kernel)
set_option maxRecDepth 20000 in
theorem gX2_readClause_X2_readTune : GoodIn wsX2_readClause (wsV RX2 67 RX2 yX2_readTune wsX2_readTune) := goodIn_app (goodIn_of _ (by decide +kernel)) ggX2_readClause_X2_readTune
set_option maxRecDepth 20000 in
theorem ggX2_readClause_X2_readWord : GoodIn wsX2_readClause wsX2_readWord := goodIn_r _ [108, 65, 109, 1, 67, 110, 69, 70, 71, 5, 72, 73, 9, 74, 75, 76, 77, 8, 78, 10, 7, 79, 80, 81, 82, 83, 84, 85, 86, 87, 88, 89, 90, 91, 92, 93, 94, 95, 96, 97, 98, 99, 100, 101, 102, 103, 104, 124, 125, 134, 135, 136, 137, 138, 139, 126, 127, 128, 129, 130, 131, 132, 133] (by decide +kernel) (by decide +kernel)
set_option maxRecDepth 20000 in
theorem gX2_readClause_X2_readWord : GoodIn wsX2_readClause (wsV RX2 70 RX2 yX2_readWord wsX2_readWord) := goodIn_app (goodIn_of _ (by decide +kernel)) ggX2_readClause_X2_readWord
set_option maxRecDepth 20000 in
theorem ggX2_readClause_X2_readPurse : GoodIn wsX2_readClause wsX2_readPurse := goodIn_r _ [114, 1, 67, 65, 115, 69, 70, 71, 5, 72, 73, 9, 74, 75, 76, 77, 8, 78, 10, 7, 79, 80, 81, 82, 83, 84, 85, 86, 87, 88, 89, 90, 91, 92, 93, 94, 95, 96, 97, 98, 99, 100, 101, 102, 103, 104, 116, 117, 118, 124, 125, 126, 127, 128, 129, 130, 131, 132, 133, 134, 135, 136, 137, 138, 139] (by decide +kernel) (by decide +kernel)
set_option maxRecDepth 20000 in
theorem gX2_readClause_X2_readPurse : GoodIn wsX2_readClause (wsV RX2 73 RX2 yX2_readPurse wsX2_readPurse) := goodIn_app (goodIn_of _ (by decide +kernel)) ggX2_readClause_X2_readPurse
set_option maxRecDepth 20000 in
theorem ggX2_readClause_X2_readAgain : GoodIn wsX2_readClause wsX2_readAgain := goodIn_r _ [122, 65, 123, 1, 69, 70, 71, 5, 72, 73, 9, 74, 75, 76, 77, 8, 78, 10, 7, 79, 80, 81, 82, 83, 84, 85, 86, 87, 88, 89, 90, 91, 92, 93, 94, 95, 96, 97, 98, 99, 100, 101, 102, 103, 104, 124, 125, 134, 135, 136, 137, 138, 139, 126, 127, 128, 129, 130, 131, 132, 133] (by decide +kernel) (by decide +kernel)
set_option maxRecDepth 20000 in
theorem gX2_readClause_X2_readAgain : GoodIn wsX2_readClause (wsV RX2 76 RX2 yX2_readAgain wsX2_readAgain) := goodIn_app (goodIn_of _ (by decide +kernel)) ggX2_readClause_X2_readAgain
set_option maxRecDepth 20000 in
theorem ggX2_readClause_X7_fail : GoodIn wsX2_readClause wsX7_fail := goodIn_r _ [72, 73, 9, 126, 127, 128, 129, 130, 131, 132, 133] (by decide +kernel) (by decide +kernel)
set_option maxRecDepth 20000 in
theorem gX2_readClause_X7_fail : GoodIn wsX2_readClause (wsV RX2 48 RX7 yX7_fail wsX7_fail) := goodIn_app (goodIn_of _ (by decide +kernel)) ggX2_readClause_X7_fail
theorem dX2_readClause_0 : decode cX2_readClause 0 = .ok (.aload_n 0, 1) := by decide +kernel
theorem dX2_readClause_1 : decode cX2_readClause 1 = .ok (.getfield 9, 3) := by decide +kernel
theorem dX2_readClause_4 : decode cX2_readClause 4 = .ok (.ldc 61, 2) := by decide +kernel
theorem dX2_readClause_6 : decode cX2_readClause 6 = .ok (.invokevirtual 63, 3) := by decide +kernel
theorem dX2_readClause_9 : decode cX2_readClause 9 = .ok (.tableswitch 63 0 3 #[31, 39, 47, 55], 31) := by decide +kernel
theorem dX2_readClause_40 : decode cX2_readClause 40 = .ok (.aload_n 0, 1) := by decide +kernel
theorem dX2_readClause_41 : decode cX2_readClause 41 = .ok (.iload_n 1, 1) := by decide +kernel
theorem dX2_readClause_42 : decode cX2_readClause 42 = .ok (.invokevirtual 67, 3) := by decide +kernel
theorem dX2_readClause_45 : decode cX2_readClause 45 = .ok (.goto 35, 3) := by decide +kernel
theorem dX2_readClause_48 : decode cX2_readClause 48 = .ok (.aload_n 0, 1) := by decide +kernel
theorem dX2_readClause_49 : decode cX2_readClause 49 = .ok (.iload_n 1, 1) := by decide +kernel
theorem dX2_readClause_50 : decode cX2_readClause 50 = .ok (.invokevirtual 70, 3) := by decide +kernel
theorem dX2_readClause_53 : decode cX2_readClause 53 = .ok (.goto 27, 3) := by decide +kernel
theorem dX2_readClause_56 : decode cX2_readClause 56 = .ok (.aload_n 0, 1) := by decide +kernel
theorem dX2_readClause_57 : decode cX2_readClause 57 = .ok (.iload_n 1, 1) := by decide +kernel
theorem dX2_readClause_58 : decode cX2_readClause 58 = .ok (.invokevirtual 73, 3) := by decide +kernel
theorem dX2_readClause_61 : decode cX2_readClause 61 = .ok (.goto 19, 3) := by decide +kernel
theorem dX2_readClause_64 : decode cX2_readClause 64 = .ok (.aload_n 0, 1) := by decide +kernel
theorem dX2_readClause_65 : decode cX2_readClause 65 = .ok (.iload_n 1, 1) := by decide +kernel
theorem dX2_readClause_66 : decode cX2_readClause 66 = .ok (.invokevirtual 76, 3) := by decide +kernel
theorem dX2_readClause_69 : decode cX2_readClause 69 = .ok (.goto 11, 3) := by decide +kernel
theorem dX2_readClause_72 : decode cX2_readClause 72 = .ok (.aload_n 0, 1) := by decide +kernel
theorem dX2_readClause_73 : decode cX2_readClause 73 = .ok (.getfield 9, 3) := by decide +kernel
theorem dX2_readClause_76 : decode cX2_readClause 76 = .ok (.iconst 0, 1) := by decide +kernel
theorem dX2_readClause_77 : decode cX2_readClause 77 = .ok (.invokevirtual 48, 3) := by decide +kernel
theorem dX2_readClause_80 : decode cX2_readClause 80 = .ok (.return_, 1) := by decide +kernel
set_option maxRecDepth 20000 in
theorem ggX2_readTune_X7_fail : GoodIn wsX2_readTune wsX7_fail := goodIn_r _ [10, 11, 12, 55, 56, 57, 58, 59, 60, 61, 62] (by decide +kernel) (by decide +kernel)
set_option maxRecDepth 20000 in
theorem gX2_readTune_X7_fail : GoodIn wsX2_readTune (wsV RX2 48 RX7 yX7_fail wsX7_fail) := goodIn_app (goodIn_of _ (by decide +kernel)) ggX2_readTune_X7_fail
set_option maxRecDepth 20000 in
theorem ggX2_readTune_X7_advance : GoodIn wsX2_readTune wsX7_advance := goodIn_r _ [16, 17, 12, 18, 19, 20, 21, 22, 9, 23, 24, 25, 26, 27, 28, 29, 30, 31, 32, 33, 34, 35, 36, 37, 38, 39, 40, 55, 56, 57, 58, 59, 60, 61, 62] (by decide +kernel) (by decide +kernel)
set_option maxRecDepth 20000 in
theorem gX2_readTune_X7_advance : GoodIn wsX2_readTune (wsV RX2 35 RX7 yX7_advance wsX7_advance) := goodIn_app (goodIn_of _ (by decide +kernel)) ggX2_readTune_X7_advance
set_option maxRecDepth 20000 in
theorem ggX2_readTune_X7_takeNumber : GoodIn wsX2_readTune wsX7_takeNumber := goodIn_r _ [44, 20, 35, 45, 7, 8, 9, 10, 11, 12, 46, 14, 15, 16, 17, 18, 19, 21, 22, 23, 24, 25, 26, 27, 28, 29, 30, 31, 32, 33, 34, 36, 37, 38, 39, 40, 55, 56, 57, 58, 59, 60, 61, 62] (by decide +kernel) (by decide +kernel)
set_option maxRecDepth 20000 in
theorem gX2_readTune_X7_takeNumber : GoodIn wsX2_readTune (wsV RX2 79 RX7 yX7_takeNumber wsX7_takeNumber) := goodIn_app (goodIn_of _ (by decide +kernel)) ggX2_readTune_X7_takeNumber
theorem dX2_readTune_0 : decode cX2_readTune 0 = .ok (.iload_n 1, 1) := by decide +kernel
theorem dX2_readTune_1 : decode cX2_readTune 1 = .ok (.ifCond .ne 14, 3) := by decide +kernel
theorem dX2_readTune_4 : decode cX2_readTune 4 = .ok (.aload_n 0, 1) := by decide +kernel
theorem dX2_readTune_5 : decode cX2_readTune 5 = .ok (.getfield 15, 3) := by decide +kernel
theorem dX2_readTune_8 : decode cX2_readTune 8 = .ok (.getfield 19, 3) := by decide +kernel
theorem dX2_readTune_11 : decode cX2_readTune 11 = .ok (.iconst 4, 1) := by decide +kernel
theorem dX2_readTune_12 : decode cX2_readTune 12 = .ok (.if_icmp .lt 12, 3) := by decide +kernel
theorem dX2_readTune_15 : decode cX2_readTune 15 = .ok (.aload_n 0, 1) := by decide +kernel
theorem dX2_readTune_16 : decode cX2_readTune 16 = .ok (.getfield 9, 3) := by decide +kernel
theorem dX2_readTune_19 : decode cX2_readTune 19 = .ok (.iconst 4, 1) := by decide +kernel
theorem dX2_readTune_20 : decode cX2_readTune 20 = .ok (.invokevirtual 48, 3) := by decide +kernel
theorem dX2_readTune_23 : decode cX2_readTune 23 = .ok (.return_, 1) := by decide +kernel
theorem dX2_readTune_24 : decode cX2_readTune 24 = .ok (.aload_n 0, 1) := by decide +kernel
theorem dX2_readTune_25 : decode cX2_readTune 25 = .ok (.getfield 9, 3) := by decide +kernel
theorem dX2_readTune_28 : decode cX2_readTune 28 = .ok (.invokevirtual 35, 3) := by decide +kernel
theorem dX2_readTune_31 : decode cX2_readTune 31 = .ok (.aload_n 0, 1) := by decide +kernel
theorem dX2_readTune_32 : decode cX2_readTune 32 = .ok (.getfield 9, 3) := by decide +kernel
theorem dX2_readTune_35 : decode cX2_readTune 35 = .ok (.iconst 1, 1) := by decide +kernel
theorem dX2_readTune_36 : decode cX2_readTune 36 = .ok (.bipush 9, 2) := by decide +kernel
theorem dX2_readTune_38 : decode cX2_readTune 38 = .ok (.invokevirtual 79, 3) := by decide +kernel
theorem dX2_readTune_41 : decode cX2_readTune 41 = .ok (.istore_n 2, 1) := by decide +kernel
theorem dX2_readTune_42 : decode cX2_readTune 42 = .ok (.aload_n 0, 1) := by decide +kernel
theorem dX2_readTune_43 : decode cX2_readTune 43 = .ok (.getfield 9, 3) := by decide +kernel
theorem dX2_readTune_46 : decode cX2_readTune 46 = .ok (.iconst 1, 1) := by decide +kernel
theorem dX2_readTune_47 : decode cX2_readTune 47 = .ok (.bipush 8, 2) := by decide +kernel
theorem dX2_readTune_49 : decode cX2_readTune 49 = .ok (.invokevirtual 79, 3) := by decide +kernel
theorem dX2_readTune_52 : decode cX2_readTune 52 = .ok (.istore_n 3, 1) := by decide +kernel
theorem dX2_readTune_53 : decode cX2_readTune 53 = .ok (.aload_n 0, 1) := by decide +kernel
theorem dX2_readTune_54 : decode cX2_readTune 54 = .ok (.getfield 9, 3) := by decide +kernel
theorem dX2_readTune_57 : decode cX2_readTune 57 = .ok (.getfield 58, 3) := by decide +kernel
theorem dX2_readTune_60 : decode cX2_readTune 60 = .ok (.ifCond .ne 34, 3) := by decide +kernel
theorem dX2_readTune_63 : decode cX2_readTune 63 = .ok (.aload_n 0, 1) := by decide +kernel
theorem dX2_readTune_64 : decode cX2_readTune 64 = .ok (.getfield 15, 3) := by decide +kernel
theorem dX2_readTune_67 : decode cX2_readTune 67 = .ok (.getfield 82, 3) := by decide +kernel
theorem dX2_readTune_70 : decode cX2_readTune 70 = .ok (.aload_n 0, 1) := by decide +kernel
theorem dX2_readTune_71 : decode cX2_readTune 71 = .ok (.getfield 15, 3) := by decide +kernel
theorem dX2_readTune_74 : decode cX2_readTune 74 = .ok (.getfield 19, 3) := by decide +kernel
theorem dX2_readTune_77 : decode cX2_readTune 77 = .ok (.iload_n 2, 1) := by decide +kernel
theorem dX2_readTune_78 : decode cX2_readTune 78 = .ok (.iload_n 3, 1) := by decide +kernel
theorem dX2_readTune_79 : decode cX2_readTune 79 = .ok (.imul, 1) := by decide +kernel
theorem dX2_readTune_80 : decode cX2_readTune 80 = .ok (.iastore, 1) := by decide +kernel
theorem dX2_readTune_81 : decode cX2_readTune 81 = .ok (.aload_n 0, 1) := by decide +kernel
theorem dX2_readTune_82 : decode cX2_readTune 82 = .ok (.getfield 15, 3) := by decide +kernel
theorem dX2_readTune_85 : decode cX2_readTune 85 = .ok (.dup, 1) := by decide +kernel
theorem dX2_readTune_86 : decode cX2_readTune 86 = .ok (.getfield 19, 3) := by decide +kernel
theorem dX2_readTune_89 : decode cX2_readTune 89 = .ok (.iconst 1, 1) := by decide +kernel
theorem dX2_readTune_90 : decode cX2_readTune 90 = .ok (.iadd, 1) := by decide +kernel
theorem dX2_readTune_91 : decode cX2_readTune 91 = .ok (.putfield 19, 3) := by decide +kernel
theorem dX2_readTune_94 : decode cX2_readTune 94 = .ok (.return_, 1) := by decide +kernel
set_option maxRecDepth 20000 in
theorem ggX2_readWord_X7_fail : GoodIn wsX2_readWord wsX7_fail := goodIn_r _ [10, 11, 12, 55, 56, 57, 58, 59, 60, 61, 62] (by decide +kernel) (by decide +kernel)
set_option maxRecDepth 20000 in
theorem gX2_readWord_X7_fail : GoodIn wsX2_readWord (wsV RX2 48 RX7 yX7_fail wsX7_fail) := goodIn_app (goodIn_of _ (by decide +kernel)) ggX2_readWord_X7_fail
set_option maxRecDepth 20000 in
theorem ggX2_readWord_X7_advance : GoodIn wsX2_readWord wsX7_advance := goodIn_r _ [16, 17, 12, 18, 19, 20, 21, 22, 9, 23, 24, 25, 26, 27, 28, 29, 30, 31, 32, 33, 34, 35, 36, 37, 38, 39, 40, 55, 56, 57, 58, 59, 60, 61, 62] (by decide +kernel) (by decide +kernel)
set_option maxRecDepth 20000 in
theorem gX2_readWord_X7_advance : GoodIn wsX2_readWord (wsV RX2 35 RX7 yX7_advance wsX7_advance) := goodIn_app (goodIn_of _ (by decide +kernel)) ggX2_readWord_X7_advance
set_option maxRecDepth 20000 in
theorem ggX2_readWord_X7_takeNumber : GoodIn wsX2_readWord wsX7_takeNumber := goodIn_r _ [44, 20, 35, 45, 7, 8, 9, 10, 11, 12, 46, 14, 15, 16, 17, 18, 19, 21, 22, 23, 24, 25, 26, 27, 28, 29, 30, 31, 32, 33, 34, 36, 37, 38, 39, 40, 55, 56, 57, 58, 59, 60, 61, 62] (by decide +kernel) (by decide +kernel)
set_option maxRecDepth 20000 in
theorem gX2_readWord_X7_takeNumber : GoodIn wsX2_readWord (wsV RX2 79 RX7 yX7_takeNumber wsX7_takeNumber) := goodIn_app (goodIn_of _ (by decide +kernel)) ggX2_readWord_X7_takeNumber
theorem dX2_readWord_0 : decode cX2_readWord 0 = .ok (.iload_n 1, 1) := by decide +kernel
theorem dX2_readWord_1 : decode cX2_readWord 1 = .ok (.ifCond .ne 14, 3) := by decide +kernel
theorem dX2_readWord_4 : decode cX2_readWord 4 = .ok (.aload_n 0, 1) := by decide +kernel
theorem dX2_readWord_5 : decode cX2_readWord 5 = .ok (.getfield 15, 3) := by decide +kernel
theorem dX2_readWord_8 : decode cX2_readWord 8 = .ok (.getfield 25, 3) := by decide +kernel
theorem dX2_readWord_11 : decode cX2_readWord 11 = .ok (.iconst 4, 1) := by decide +kernel
theorem dX2_readWord_12 : decode cX2_readWord 12 = .ok (.if_icmp .lt 12, 3) := by decide +kernel
theorem dX2_readWord_15 : decode cX2_readWord 15 = .ok (.aload_n 0, 1) := by decide +kernel
theorem dX2_readWord_16 : decode cX2_readWord 16 = .ok (.getfield 9, 3) := by decide +kernel
theorem dX2_readWord_19 : decode cX2_readWord 19 = .ok (.iconst 4, 1) := by decide +kernel
theorem dX2_readWord_20 : decode cX2_readWord 20 = .ok (.invokevirtual 48, 3) := by decide +kernel
theorem dX2_readWord_23 : decode cX2_readWord 23 = .ok (.return_, 1) := by decide +kernel
theorem dX2_readWord_24 : decode cX2_readWord 24 = .ok (.aload_n 0, 1) := by decide +kernel
theorem dX2_readWord_25 : decode cX2_readWord 25 = .ok (.getfield 9, 3) := by decide +kernel
theorem dX2_readWord_28 : decode cX2_readWord 28 = .ok (.invokevirtual 35, 3) := by decide +kernel
theorem dX2_readWord_31 : decode cX2_readWord 31 = .ok (.aload_n 0, 1) := by decide +kernel
theorem dX2_readWord_32 : decode cX2_readWord 32 = .ok (.getfield 9, 3) := by decide +kernel
theorem dX2_readWord_35 : decode cX2_readWord 35 = .ok (.iconst 1, 1) := by decide +kernel
theorem dX2_readWord_36 : decode cX2_readWord 36 = .ok (.bipush 9, 2) := by decide +kernel
theorem dX2_readWord_38 : decode cX2_readWord 38 = .ok (.invokevirtual 79, 3) := by decide +kernel
theorem dX2_readWord_41 : decode cX2_readWord 41 = .ok (.istore_n 2, 1) := by decide +kernel
theorem dX2_readWord_42 : decode cX2_readWord 42 = .ok (.aload_n 0, 1) := by decide +kernel
theorem dX2_readWord_43 : decode cX2_readWord 43 = .ok (.getfield 9, 3) := by decide +kernel
theorem dX2_readWord_46 : decode cX2_readWord 46 = .ok (.getfield 58, 3) := by decide +kernel
theorem dX2_readWord_49 : decode cX2_readWord 49 = .ok (.ifCond .ne 32, 3) := by decide +kernel
theorem dX2_readWord_52 : decode cX2_readWord 52 = .ok (.aload_n 0, 1) := by decide +kernel
theorem dX2_readWord_53 : decode cX2_readWord 53 = .ok (.getfield 15, 3) := by decide +kernel
theorem dX2_readWord_56 : decode cX2_readWord 56 = .ok (.getfield 85, 3) := by decide +kernel
theorem dX2_readWord_59 : decode cX2_readWord 59 = .ok (.aload_n 0, 1) := by decide +kernel
theorem dX2_readWord_60 : decode cX2_readWord 60 = .ok (.getfield 15, 3) := by decide +kernel
theorem dX2_readWord_63 : decode cX2_readWord 63 = .ok (.getfield 25, 3) := by decide +kernel
theorem dX2_readWord_66 : decode cX2_readWord 66 = .ok (.iload_n 2, 1) := by decide +kernel
theorem dX2_readWord_67 : decode cX2_readWord 67 = .ok (.iastore, 1) := by decide +kernel
theorem dX2_readWord_68 : decode cX2_readWord 68 = .ok (.aload_n 0, 1) := by decide +kernel
theorem dX2_readWord_69 : decode cX2_readWord 69 = .ok (.getfield 15, 3) := by decide +kernel
theorem dX2_readWord_72 : decode cX2_readWord 72 = .ok (.dup, 1) := by decide +kernel
theorem dX2_readWord_73 : decode cX2_readWord 73 = .ok (.getfield 25, 3) := by decide +kernel
theorem dX2_readWord_76 : decode cX2_readWord 76 = .ok (.iconst 1, 1) := by decide +kernel
theorem dX2_readWord_77 : decode cX2_readWord 77 = .ok (.iadd, 1) := by decide +kernel
theorem dX2_readWord_78 : decode cX2_readWord 78 = .ok (.putfield 25, 3) := by decide +kernel
theorem dX2_readWord_81 : decode cX2_readWord 81 = .ok (.return_, 1) := by decide +kernel
set_option maxRecDepth 20000 in
theorem ggX2_readPurse_X7_fail : GoodIn wsX2_readPurse wsX7_fail := goodIn_r _ [9, 10, 11, 51, 52, 53, 54, 55, 56, 57, 58] (by decide +kernel) (by decide +kernel)
set_option maxRecDepth 20000 in
theorem gX2_readPurse_X7_fail : GoodIn wsX2_readPurse (wsV RX2 48 RX7 yX7_fail wsX7_fail) := goodIn_app (goodIn_of _ (by decide +kernel)) ggX2_readPurse_X7_fail
set_option maxRecDepth 20000 in
theorem ggX2_readPurse_X7_advance : GoodIn wsX2_readPurse wsX7_advance := goodIn_r _ [15, 16, 11, 17, 18, 19, 20, 21, 8, 22, 23, 24, 25, 26, 27, 28, 29, 30, 31, 32, 33, 34, 35, 36, 37, 38, 39, 51, 52, 53, 54, 55, 56, 57, 58] (by decide +kernel) (by decide +kernel)
set_option maxRecDepth 20000 in
theorem gX2_readPurse_X7_advance : GoodIn wsX2_readPurse (wsV RX2 35 RX7 yX7_advance wsX7_advance) := goodIn_app (goodIn_of _ (by decide +kernel)) ggX2_readPurse_X7_advance
set_option maxRecDepth 20000 in
theorem ggX2_readPurse_X7_takeNumber : GoodIn wsX2_readPurse wsX7_takeNumber := goodIn_r _ [43, 19, 34, 44, 6, 7, 8, 9, 10, 11, 45, 13, 14, 15, 16, 17, 18, 20, 21, 22, 23, 24, 25, 26, 27, 28, 29, 30, 31, 32, 33, 35, 36, 37, 38, 39, 51, 52, 53, 54, 55, 56, 57, 58] (by decide +kernel) (by decide +kernel)
set_option maxRecDepth 20000 in
theorem gX2_readPurse_X7_takeNumber : GoodIn wsX2_readPurse (wsV RX2 79 RX7 yX7_takeNumber wsX7_takeNumber) := goodIn_app (goodIn_of _ (by decide +kernel)) ggX2_readPurse_X7_takeNumber
set_option maxRecDepth 20000 in
theorem ggX2_readPurse_X11_isSide : GoodIn wsX2_readPurse wsX11_isSide := goodIn_r _ [48] (by decide +kernel) (by decide +kernel)
set_option maxRecDepth 20000 in
theorem gX2_readPurse_X11_isSide_n88 : GoodIn wsX2_readPurse (wsX11_isSide) := ggX2_readPurse_X11_isSide
theorem dX2_readPurse_0 : decode cX2_readPurse 0 = .ok (.iload_n 1, 1) := by decide +kernel
theorem dX2_readPurse_1 : decode cX2_readPurse 1 = .ok (.ifCond .eq 12, 3) := by decide +kernel
theorem dX2_readPurse_4 : decode cX2_readPurse 4 = .ok (.aload_n 0, 1) := by decide +kernel
theorem dX2_readPurse_5 : decode cX2_readPurse 5 = .ok (.getfield 9, 3) := by decide +kernel
theorem dX2_readPurse_8 : decode cX2_readPurse 8 = .ok (.iconst 4, 1) := by decide +kernel
theorem dX2_readPurse_9 : decode cX2_readPurse 9 = .ok (.invokevirtual 48, 3) := by decide +kernel
theorem dX2_readPurse_12 : decode cX2_readPurse 12 = .ok (.return_, 1) := by decide +kernel
theorem dX2_readPurse_13 : decode cX2_readPurse 13 = .ok (.aload_n 0, 1) := by decide +kernel
theorem dX2_readPurse_14 : decode cX2_readPurse 14 = .ok (.getfield 9, 3) := by decide +kernel
theorem dX2_readPurse_17 : decode cX2_readPurse 17 = .ok (.invokevirtual 35, 3) := by decide +kernel
theorem dX2_readPurse_20 : decode cX2_readPurse 20 = .ok (.aload_n 0, 1) := by decide +kernel
theorem dX2_readPurse_21 : decode cX2_readPurse 21 = .ok (.getfield 9, 3) := by decide +kernel
theorem dX2_readPurse_24 : decode cX2_readPurse 24 = .ok (.iconst 0, 1) := by decide +kernel
theorem dX2_readPurse_25 : decode cX2_readPurse 25 = .ok (.iconst 1, 1) := by decide +kernel
theorem dX2_readPurse_26 : decode cX2_readPurse 26 = .ok (.invokevirtual 79, 3) := by decide +kernel
theorem dX2_readPurse_29 : decode cX2_readPurse 29 = .ok (.istore_n 2, 1) := by decide +kernel
theorem dX2_readPurse_30 : decode cX2_readPurse 30 = .ok (.aload_n 0, 1) := by decide +kernel
theorem dX2_readPurse_31 : decode cX2_readPurse 31 = .ok (.getfield 9, 3) := by decide +kernel
theorem dX2_readPurse_34 : decode cX2_readPurse 34 = .ok (.iconst 0, 1) := by decide +kernel
theorem dX2_readPurse_35 : decode cX2_readPurse 35 = .ok (.bipush 7, 2) := by decide +kernel
theorem dX2_readPurse_37 : decode cX2_readPurse 37 = .ok (.invokevirtual 79, 3) := by decide +kernel
theorem dX2_readPurse_40 : decode cX2_readPurse 40 = .ok (.istore_n 3, 1) := by decide +kernel
theorem dX2_readPurse_41 : decode cX2_readPurse 41 = .ok (.aload_n 0, 1) := by decide +kernel
theorem dX2_readPurse_42 : decode cX2_readPurse 42 = .ok (.getfield 9, 3) := by decide +kernel
theorem dX2_readPurse_45 : decode cX2_readPurse 45 = .ok (.getfield 58, 3) := by decide +kernel
theorem dX2_readPurse_48 : decode cX2_readPurse 48 = .ok (.ifCond .ne 20, 3) := by decide +kernel
theorem dX2_readPurse_51 : decode cX2_readPurse 51 = .ok (.iload_n 2, 1) := by decide +kernel
theorem dX2_readPurse_52 : decode cX2_readPurse 52 = .ok (.invokestatic 88, 3) := by decide +kernel
theorem dX2_readPurse_55 : decode cX2_readPurse 55 = .ok (.ifCond .eq 13, 3) := by decide +kernel
theorem dX2_readPurse_58 : decode cX2_readPurse 58 = .ok (.aload_n 0, 1) := by decide +kernel
theorem dX2_readPurse_59 : decode cX2_readPurse 59 = .ok (.getfield 15, 3) := by decide +kernel
theorem dX2_readPurse_62 : decode cX2_readPurse 62 = .ok (.getfield 31, 3) := by decide +kernel
theorem dX2_readPurse_65 : decode cX2_readPurse 65 = .ok (.iload_n 2, 1) := by decide +kernel
theorem dX2_readPurse_66 : decode cX2_readPurse 66 = .ok (.iload_n 3, 1) := by decide +kernel
theorem dX2_readPurse_67 : decode cX2_readPurse 67 = .ok (.iastore, 1) := by decide +kernel
theorem dX2_readPurse_68 : decode cX2_readPurse 68 = .ok (.return_, 1) := by decide +kernel
set_option maxRecDepth 20000 in
theorem ggX2_readAgain_X7_fail : GoodIn wsX2_readAgain wsX7_fail := goodIn_r _ [8, 9, 10, 53, 54, 55, 56, 57, 58, 59, 60] (by decide +kernel) (by decide +kernel)
set_option maxRecDepth 20000 in
theorem gX2_readAgain_X7_fail : GoodIn wsX2_readAgain (wsV RX2 48 RX7 yX7_fail wsX7_fail) := goodIn_app (goodIn_of _ (by decide +kernel)) ggX2_readAgain_X7_fail
set_option maxRecDepth 20000 in
theorem ggX2_readAgain_X7_advance : GoodIn wsX2_readAgain wsX7_advance := goodIn_r _ [14, 15, 10, 16, 17, 18, 19, 20, 7, 21, 22, 23, 24, 25, 26, 27, 28, 29, 30, 31, 32, 33, 34, 35, 36, 37, 38, 53, 54, 55, 56, 57, 58, 59, 60] (by decide +kernel) (by decide +kernel)
set_option maxRecDepth 20000 in
theorem gX2_readAgain_X7_advance : GoodIn wsX2_readAgain (wsV RX2 35 RX7 yX7_advance wsX7_advance) := goodIn_app (goodIn_of _ (by decide +kernel)) ggX2_readAgain_X7_advance
set_option maxRecDepth 20000 in
theorem ggX2_readAgain_X7_takeNumber : GoodIn wsX2_readAgain wsX7_takeNumber := goodIn_r _ [42, 18, 33, 43, 5, 6, 7, 8, 9, 10, 44, 12, 13, 14, 15, 16, 17, 19, 20, 21, 22, 23, 24, 25, 26, 27, 28, 29, 30, 31, 32, 34, 35, 36, 37, 38, 53, 54, 55, 56, 57, 58, 59, 60] (by decide +kernel) (by decide +kernel)
set_option maxRecDepth 20000 in
theorem gX2_readAgain_X7_takeNumber : GoodIn wsX2_readAgain (wsV RX2 79 RX7 yX7_takeNumber wsX7_takeNumber) := goodIn_app (goodIn_of _ (by decide +kernel)) ggX2_readAgain_X7_takeNumber
theorem dX2_readAgain_0 : decode cX2_readAgain 0 = .ok (.iload_n 1, 1) := by decide +kernel
theorem dX2_readAgain_1 : decode cX2_readAgain 1 = .ok (.ifCond .ne 14, 3) := by decide +kernel
theorem dX2_readAgain_4 : decode cX2_readAgain 4 = .ok (.aload_n 0, 1) := by decide +kernel
theorem dX2_readAgain_5 : decode cX2_readAgain 5 = .ok (.getfield 15, 3) := by decide +kernel
theorem dX2_readAgain_8 : decode cX2_readAgain 8 = .ok (.getfield 28, 3) := by decide +kernel
theorem dX2_readAgain_11 : decode cX2_readAgain 11 = .ok (.iconst (-1), 1) := by decide +kernel
theorem dX2_readAgain_12 : decode cX2_readAgain 12 = .ok (.if_icmp .eq 12, 3) := by decide +kernel
theorem dX2_readAgain_15 : decode cX2_readAgain 15 = .ok (.aload_n 0, 1) := by decide +kernel
theorem dX2_readAgain_16 : decode cX2_readAgain 16 = .ok (.getfield 9, 3) := by decide +kernel
theorem dX2_readAgain_19 : decode cX2_readAgain 19 = .ok (.iconst 4, 1) := by decide +kernel
theorem dX2_readAgain_20 : decode cX2_readAgain 20 = .ok (.invokevirtual 48, 3) := by decide +kernel
theorem dX2_readAgain_23 : decode cX2_readAgain 23 = .ok (.return_, 1) := by decide +kernel
theorem dX2_readAgain_24 : decode cX2_readAgain 24 = .ok (.aload_n 0, 1) := by decide +kernel
theorem dX2_readAgain_25 : decode cX2_readAgain 25 = .ok (.getfield 9, 3) := by decide +kernel
theorem dX2_readAgain_28 : decode cX2_readAgain 28 = .ok (.invokevirtual 35, 3) := by decide +kernel
theorem dX2_readAgain_31 : decode cX2_readAgain 31 = .ok (.aload_n 0, 1) := by decide +kernel
theorem dX2_readAgain_32 : decode cX2_readAgain 32 = .ok (.getfield 15, 3) := by decide +kernel
theorem dX2_readAgain_35 : decode cX2_readAgain 35 = .ok (.aload_n 0, 1) := by decide +kernel
theorem dX2_readAgain_36 : decode cX2_readAgain 36 = .ok (.getfield 9, 3) := by decide +kernel
theorem dX2_readAgain_39 : decode cX2_readAgain 39 = .ok (.iconst 0, 1) := by decide +kernel
theorem dX2_readAgain_40 : decode cX2_readAgain 40 = .ok (.bipush 9, 2) := by decide +kernel
theorem dX2_readAgain_42 : decode cX2_readAgain 42 = .ok (.invokevirtual 79, 3) := by decide +kernel
theorem dX2_readAgain_45 : decode cX2_readAgain 45 = .ok (.putfield 28, 3) := by decide +kernel
theorem dX2_readAgain_48 : decode cX2_readAgain 48 = .ok (.return_, 1) := by decide +kernel
theorem dX3_init_0 : decode cX3_init 0 = .ok (.aload_n 0, 1) := by decide +kernel
theorem dX3_init_1 : decode cX3_init 1 = .ok (.invokespecial 1, 3) := by decide +kernel
theorem dX3_init_4 : decode cX3_init 4 = .ok (.return_, 1) := by decide +kernel
set_option maxRecDepth 20000 in
theorem ggX3_draw_X3_drawBelow : GoodIn wsX3_draw wsX3_drawBelow := goodIn_r _ [9, 10, 11, 12, 13, 14, 15, 16, 17, 18, 19] (by decide +kernel) (by decide +kernel)
set_option maxRecDepth 20000 in
theorem gX3_draw_X3_drawBelow : GoodIn wsX3_draw (wsV RX3 7 RX3 yX3_drawBelow wsX3_drawBelow) := goodIn_app (goodIn_of _ (by decide +kernel)) ggX3_draw_X3_drawBelow
theorem dX3_draw_0 : decode cX3_draw 0 = .ok (.aload_n 0, 1) := by decide +kernel
theorem dX3_draw_1 : decode cX3_draw 1 = .ok (.aload_n 0, 1) := by decide +kernel
theorem dX3_draw_2 : decode cX3_draw 2 = .ok (.iload_n 1, 1) := by decide +kernel
theorem dX3_draw_3 : decode cX3_draw 3 = .ok (.invokevirtual 7, 3) := by decide +kernel
theorem dX3_draw_6 : decode cX3_draw 6 = .ok (.putfield 13, 3) := by decide +kernel
theorem dX3_draw_9 : decode cX3_draw 9 = .ok (.aload_n 0, 1) := by decide +kernel
theorem dX3_draw_10 : decode cX3_draw 10 = .ok (.aload_n 0, 1) := by decide +kernel
theorem dX3_draw_11 : decode cX3_draw 11 = .ok (.iconst 2, 1) := by decide +kernel
theorem dX3_draw_12 : decode cX3_draw 12 = .ok (.invokevirtual 7, 3) := by decide +kernel
theorem dX3_draw_15 : decode cX3_draw 15 = .ok (.putfield 17, 3) := by decide +kernel
theorem dX3_draw_18 : decode cX3_draw 18 = .ok (.aload_n 0, 1) := by decide +kernel
theorem dX3_draw_19 : decode cX3_draw 19 = .ok (.aload_n 0, 1) := by decide +kernel
theorem dX3_draw_20 : decode cX3_draw 20 = .ok (.iload_n 2, 1) := by decide +kernel
theorem dX3_draw_21 : decode cX3_draw 21 = .ok (.iconst 1, 1) := by decide +kernel
theorem dX3_draw_22 : decode cX3_draw 22 = .ok (.iadd, 1) := by decide +kernel
theorem dX3_draw_23 : decode cX3_draw 23 = .ok (.invokevirtual 7, 3) := by decide +kernel
theorem dX3_draw_26 : decode cX3_draw 26 = .ok (.putfield 20, 3) := by decide +kernel
theorem dX3_draw_29 : decode cX3_draw 29 = .ok (.aload_n 0, 1) := by decide +kernel
theorem dX3_draw_30 : decode cX3_draw 30 = .ok (.aload_n 0, 1) := by decide +kernel
theorem dX3_draw_31 : decode cX3_draw 31 = .ok (.iload_n 2, 1) := by decide +kernel
theorem dX3_draw_32 : decode cX3_draw 32 = .ok (.iconst 1, 1) := by decide +kernel
theorem dX3_draw_33 : decode cX3_draw 33 = .ok (.iadd, 1) := by decide +kernel
theorem dX3_draw_34 : decode cX3_draw 34 = .ok (.invokevirtual 7, 3) := by decide +kernel
theorem dX3_draw_37 : decode cX3_draw 37 = .ok (.putfield 23, 3) := by decide +kernel
theorem dX3_draw_40 : decode cX3_draw 40 = .ok (.return_, 1) := by decide +kernel
theorem dX3_drawBelow_0 : decode cX3_drawBelow 0 = .ok (.aload_n 0, 1) := by decide +kernel
theorem dX3_drawBelow_1 : decode cX3_drawBelow 1 = .ok (.aload_n 0, 1) := by decide +kernel
theorem dX3_drawBelow_2 : decode cX3_drawBelow 2 = .ok (.getfield 26, 3) := by decide +kernel
theorem dX3_drawBelow_5 : decode cX3_drawBelow 5 = .ok (.i2l, 1) := by decide +kernel
theorem dX3_drawBelow_6 : decode cX3_drawBelow 6 = .ok (.ldc2_w 29, 3) := by decide +kernel
theorem dX3_drawBelow_9 : decode cX3_drawBelow 9 = .ok (.lmul, 1) := by decide +kernel
theorem dX3_drawBelow_10 : decode cX3_drawBelow 10 = .ok (.ldc2_w 31, 3) := by decide +kernel
theorem dX3_drawBelow_13 : decode cX3_drawBelow 13 = .ok (.ladd, 1) := by decide +kernel
theorem dX3_drawBelow_14 : decode cX3_drawBelow 14 = .ok (.ldc2_w 33, 3) := by decide +kernel
theorem dX3_drawBelow_17 : decode cX3_drawBelow 17 = .ok (.land, 1) := by decide +kernel
theorem dX3_drawBelow_18 : decode cX3_drawBelow 18 = .ok (.l2i, 1) := by decide +kernel
theorem dX3_drawBelow_19 : decode cX3_drawBelow 19 = .ok (.putfield 26, 3) := by decide +kernel
theorem dX3_drawBelow_22 : decode cX3_drawBelow 22 = .ok (.iload_n 1, 1) := by decide +kernel
theorem dX3_drawBelow_23 : decode cX3_drawBelow 23 = .ok (.ifCond .le 15, 3) := by decide +kernel
theorem dX3_drawBelow_26 : decode cX3_drawBelow 26 = .ok (.aload_n 0, 1) := by decide +kernel
theorem dX3_drawBelow_27 : decode cX3_drawBelow 27 = .ok (.getfield 26, 3) := by decide +kernel
theorem dX3_drawBelow_30 : decode cX3_drawBelow 30 = .ok (.ldc 35, 2) := by decide +kernel
theorem dX3_drawBelow_32 : decode cX3_drawBelow 32 = .ok (.idiv, 1) := by decide +kernel
theorem dX3_drawBelow_33 : decode cX3_drawBelow 33 = .ok (.iload_n 1, 1) := by decide +kernel
theorem dX3_drawBelow_34 : decode cX3_drawBelow 34 = .ok (.irem, 1) := by decide +kernel
theorem dX3_drawBelow_35 : decode cX3_drawBelow 35 = .ok (.goto 4, 3) := by decide +kernel
theorem dX3_drawBelow_38 : decode cX3_drawBelow 38 = .ok (.iconst 0, 1) := by decide +kernel
theorem dX3_drawBelow_39 : decode cX3_drawBelow 39 = .ok (.ireturn, 1) := by decide +kernel
theorem dX4_init_0 : decode cX4_init 0 = .ok (.aload_n 0, 1) := by decide +kernel
theorem dX4_init_1 : decode cX4_init 1 = .ok (.invokespecial 3, 3) := by decide +kernel
theorem dX4_init_4 : decode cX4_init 4 = .ok (.aload_n 0, 1) := by decide +kernel
theorem dX4_init_5 : decode cX4_init 5 = .ok (.bipush 6, 2) := by decide +kernel
theorem dX4_init_7 : decode cX4_init 7 = .ok (.newarray .int, 2) := by decide +kernel
theorem dX4_init_9 : decode cX4_init 9 = .ok (.putfield 9, 3) := by decide +kernel
theorem dX4_init_12 : decode cX4_init 12 = .ok (.aload_n 0, 1) := by decide +kernel
theorem dX4_init_13 : decode cX4_init 13 = .ok (.bipush 6, 2) := by decide +kernel
theorem dX4_init_15 : decode cX4_init 15 = .ok (.newarray .int, 2) := by decide +kernel
theorem dX4_init_17 : decode cX4_init 17 = .ok (.putfield 15, 3) := by decide +kernel
theorem dX4_init_20 : decode cX4_init 20 = .ok (.aload_n 0, 1) := by decide +kernel
theorem dX4_init_21 : decode cX4_init 21 = .ok (.bipush 6, 2) := by decide +kernel
theorem dX4_init_23 : decode cX4_init 23 = .ok (.newarray .int, 2) := by decide +kernel
theorem dX4_init_25 : decode cX4_init 25 = .ok (.putfield 18, 3) := by decide +kernel
theorem dX4_init_28 : decode cX4_init 28 = .ok (.return_, 1) := by decide +kernel
theorem dX4_copyFrom_0 : decode cX4_copyFrom 0 = .ok (.aload_n 0, 1) := by decide +kernel
theorem dX4_copyFrom_1 : decode cX4_copyFrom 1 = .ok (.aload_n 1, 1) := by decide +kernel
theorem dX4_copyFrom_2 : decode cX4_copyFrom 2 = .ok (.getfield 21, 3) := by decide +kernel
theorem dX4_copyFrom_5 : decode cX4_copyFrom 5 = .ok (.putfield 21, 3) := by decide +kernel
theorem dX4_copyFrom_8 : decode cX4_copyFrom 8 = .ok (.aload_n 1, 1) := by decide +kernel
theorem dX4_copyFrom_9 : decode cX4_copyFrom 9 = .ok (.getfield 9, 3) := by decide +kernel
theorem dX4_copyFrom_12 : decode cX4_copyFrom 12 = .ok (.iconst 0, 1) := by decide +kernel
theorem dX4_copyFrom_13 : decode cX4_copyFrom 13 = .ok (.aload_n 0, 1) := by decide +kernel
theorem dX4_copyFrom_14 : decode cX4_copyFrom 14 = .ok (.getfield 9, 3) := by decide +kernel
theorem dX4_copyFrom_17 : decode cX4_copyFrom 17 = .ok (.iconst 0, 1) := by decide +kernel
theorem dX4_copyFrom_18 : decode cX4_copyFrom 18 = .ok (.bipush 6, 2) := by decide +kernel
theorem dX4_copyFrom_20 : decode cX4_copyFrom 20 = .ok (.invokestatic 25, 3) := by decide +kernel
theorem dX4_copyFrom_23 : decode cX4_copyFrom 23 = .ok (.aload_n 1, 1) := by decide +kernel
theorem dX4_copyFrom_24 : decode cX4_copyFrom 24 = .ok (.getfield 15, 3) := by decide +kernel
theorem dX4_copyFrom_27 : decode cX4_copyFrom 27 = .ok (.iconst 0, 1) := by decide +kernel
theorem dX4_copyFrom_28 : decode cX4_copyFrom 28 = .ok (.aload_n 0, 1) := by decide +kernel
theorem dX4_copyFrom_29 : decode cX4_copyFrom 29 = .ok (.getfield 15, 3) := by decide +kernel
theorem dX4_copyFrom_32 : decode cX4_copyFrom 32 = .ok (.iconst 0, 1) := by decide +kernel
theorem dX4_copyFrom_33 : decode cX4_copyFrom 33 = .ok (.bipush 6, 2) := by decide +kernel
theorem dX4_copyFrom_35 : decode cX4_copyFrom 35 = .ok (.invokestatic 25, 3) := by decide +kernel
theorem dX4_copyFrom_38 : decode cX4_copyFrom 38 = .ok (.return_, 1) := by decide +kernel
theorem dX4_add_0 : decode cX4_add 0 = .ok (.aload_n 0, 1) := by decide +kernel
theorem dX4_add_1 : decode cX4_add 1 = .ok (.getfield 21, 3) := by decide +kernel
theorem dX4_add_4 : decode cX4_add 4 = .ok (.ifCond .lt 12, 3) := by decide +kernel
theorem dX4_add_7 : decode cX4_add 7 = .ok (.aload_n 0, 1) := by decide +kernel
theorem dX4_add_8 : decode cX4_add 8 = .ok (.getfield 21, 3) := by decide +kernel
theorem dX4_add_11 : decode cX4_add 11 = .ok (.bipush 6, 2) := by decide +kernel
theorem dX4_add_13 : decode cX4_add 13 = .ok (.if_icmp .lt 5, 3) := by decide +kernel
theorem dX4_add_16 : decode cX4_add 16 = .ok (.iconst 0, 1) := by decide +kernel
theorem dX4_add_17 : decode cX4_add 17 = .ok (.ireturn, 1) := by decide +kernel
theorem dX4_add_18 : decode cX4_add 18 = .ok (.aload_n 0, 1) := by decide +kernel
theorem dX4_add_19 : decode cX4_add 19 = .ok (.getfield 9, 3) := by decide +kernel
theorem dX4_add_22 : decode cX4_add 22 = .ok (.aload_n 0, 1) := by decide +kernel
theorem dX4_add_23 : decode cX4_add 23 = .ok (.getfield 21, 3) := by decide +kernel
theorem dX4_add_26 : decode cX4_add 26 = .ok (.iload_n 1, 1) := by decide +kernel
theorem dX4_add_27 : decode cX4_add 27 = .ok (.iastore, 1) := by decide +kernel
theorem dX4_add_28 : decode cX4_add 28 = .ok (.aload_n 0, 1) := by decide +kernel
theorem dX4_add_29 : decode cX4_add 29 = .ok (.getfield 15, 3) := by decide +kernel
theorem dX4_add_32 : decode cX4_add 32 = .ok (.aload_n 0, 1) := by decide +kernel
theorem dX4_add_33 : decode cX4_add 33 = .ok (.getfield 21, 3) := by decide +kernel
theorem dX4_add_36 : decode cX4_add 36 = .ok (.iload_n 2, 1) := by decide +kernel
theorem dX4_add_37 : decode cX4_add 37 = .ok (.iastore, 1) := by decide +kernel
theorem dX4_add_38 : decode cX4_add 38 = .ok (.aload_n 0, 1) := by decide +kernel
theorem dX4_add_39 : decode cX4_add 39 = .ok (.dup, 1) := by decide +kernel
theorem dX4_add_40 : decode cX4_add 40 = .ok (.getfield 21, 3) := by decide +kernel
theorem dX4_add_43 : decode cX4_add 43 = .ok (.iconst 1, 1) := by decide +kernel
theorem dX4_add_44 : decode cX4_add 44 = .ok (.iadd, 1) := by decide +kernel
theorem dX4_add_45 : decode cX4_add 45 = .ok (.putfield 21, 3) := by decide +kernel
theorem dX4_add_48 : decode cX4_add 48 = .ok (.iconst 1, 1) := by decide +kernel
theorem dX4_add_49 : decode cX4_add 49 = .ok (.ireturn, 1) := by decide +kernel
set_option maxRecDepth 20000 in
theorem ggX4_arrange_X4_isDearer : GoodIn wsX4_arrange wsX4_isDearer := goodIn_r _ [7, 8, 9, 10, 11, 12, 13] (by decide +kernel) (by decide +kernel)
set_option maxRecDepth 20000 in
theorem gX4_arrange_X4_isDearer : GoodIn wsX4_arrange (wsV RX4 31 RX4 yX4_isDearer wsX4_isDearer) := goodIn_app (goodIn_of _ (by decide +kernel)) ggX4_arrange_X4_isDearer
theorem dX4_arrange_0 : decode cX4_arrange 0 = .ok (.iconst 0, 1) := by decide +kernel
theorem dX4_arrange_1 : decode cX4_arrange 1 = .ok (.istore_n 1, 1) := by decide +kernel
theorem dX4_arrange_2 : decode cX4_arrange 2 = .ok (.iload_n 1, 1) := by decide +kernel
theorem dX4_arrange_3 : decode cX4_arrange 3 = .ok (.aload_n 0, 1) := by decide +kernel
theorem dX4_arrange_4 : decode cX4_arrange 4 = .ok (.getfield 21, 3) := by decide +kernel
theorem dX4_arrange_7 : decode cX4_arrange 7 = .ok (.if_icmp .ge 64, 3) := by decide +kernel
theorem dX4_arrange_10 : decode cX4_arrange 10 = .ok (.iload_n 1, 1) := by decide +kernel
theorem dX4_arrange_11 : decode cX4_arrange 11 = .ok (.bipush 6, 2) := by decide +kernel
theorem dX4_arrange_13 : decode cX4_arrange 13 = .ok (.if_icmp .ge 58, 3) := by decide +kernel
theorem dX4_arrange_16 : decode cX4_arrange 16 = .ok (.iload_n 1, 1) := by decide +kernel
theorem dX4_arrange_17 : decode cX4_arrange 17 = .ok (.istore_n 2, 1) := by decide +kernel
theorem dX4_arrange_18 : decode cX4_arrange 18 = .ok (.iload_n 2, 1) := by decide +kernel
theorem dX4_arrange_19 : decode cX4_arrange 19 = .ok (.ifCond .le 39, 3) := by decide +kernel
theorem dX4_arrange_22 : decode cX4_arrange 22 = .ok (.aload_n 0, 1) := by decide +kernel
theorem dX4_arrange_23 : decode cX4_arrange 23 = .ok (.iload_n 1, 1) := by decide +kernel
theorem dX4_arrange_24 : decode cX4_arrange 24 = .ok (.aload_n 0, 1) := by decide +kernel
theorem dX4_arrange_25 : decode cX4_arrange 25 = .ok (.getfield 18, 3) := by decide +kernel
theorem dX4_arrange_28 : decode cX4_arrange 28 = .ok (.iload_n 2, 1) := by decide +kernel
theorem dX4_arrange_29 : decode cX4_arrange 29 = .ok (.iconst 1, 1) := by decide +kernel
theorem dX4_arrange_30 : decode cX4_arrange 30 = .ok (.isub, 1) := by decide +kernel
theorem dX4_arrange_31 : decode cX4_arrange 31 = .ok (.iaload, 1) := by decide +kernel
theorem dX4_arrange_32 : decode cX4_arrange 32 = .ok (.invokevirtual 31, 3) := by decide +kernel
theorem dX4_arrange_35 : decode cX4_arrange 35 = .ok (.ifCond .eq 23, 3) := by decide +kernel
theorem dX4_arrange_38 : decode cX4_arrange 38 = .ok (.aload_n 0, 1) := by decide +kernel
theorem dX4_arrange_39 : decode cX4_arrange 39 = .ok (.getfield 18, 3) := by decide +kernel
theorem dX4_arrange_42 : decode cX4_arrange 42 = .ok (.iload_n 2, 1) := by decide +kernel
theorem dX4_arrange_43 : decode cX4_arrange 43 = .ok (.aload_n 0, 1) := by decide +kernel
theorem dX4_arrange_44 : decode cX4_arrange 44 = .ok (.getfield 18, 3) := by decide +kernel
theorem dX4_arrange_47 : decode cX4_arrange 47 = .ok (.iload_n 2, 1) := by decide +kernel
theorem dX4_arrange_48 : decode cX4_arrange 48 = .ok (.iconst 1, 1) := by decide +kernel
theorem dX4_arrange_49 : decode cX4_arrange 49 = .ok (.isub, 1) := by decide +kernel
theorem dX4_arrange_50 : decode cX4_arrange 50 = .ok (.iaload, 1) := by decide +kernel
theorem dX4_arrange_51 : decode cX4_arrange 51 = .ok (.iastore, 1) := by decide +kernel
theorem dX4_arrange_52 : decode cX4_arrange 52 = .ok (.iinc 2 (-1), 3) := by decide +kernel
theorem dX4_arrange_55 : decode cX4_arrange 55 = .ok (.goto (-37), 3) := by decide +kernel
theorem dX4_arrange_58 : decode cX4_arrange 58 = .ok (.aload_n 0, 1) := by decide +kernel
theorem dX4_arrange_59 : decode cX4_arrange 59 = .ok (.getfield 18, 3) := by decide +kernel
theorem dX4_arrange_62 : decode cX4_arrange 62 = .ok (.iload_n 2, 1) := by decide +kernel
theorem dX4_arrange_63 : decode cX4_arrange 63 = .ok (.iload_n 1, 1) := by decide +kernel
theorem dX4_arrange_64 : decode cX4_arrange 64 = .ok (.iastore, 1) := by decide +kernel
theorem dX4_arrange_65 : decode cX4_arrange 65 = .ok (.iinc 1 1, 3) := by decide +kernel
theorem dX4_arrange_68 : decode cX4_arrange 68 = .ok (.goto (-66), 3) := by decide +kernel
theorem dX4_arrange_71 : decode cX4_arrange 71 = .ok (.return_, 1) := by decide +kernel
theorem dX4_isDearer_0 : decode cX4_isDearer 0 = .ok (.aload_n 0, 1) := by decide +kernel
theorem dX4_isDearer_1 : decode cX4_isDearer 1 = .ok (.getfield 15, 3) := by decide +kernel
theorem dX4_isDearer_4 : decode cX4_isDearer 4 = .ok (.iload_n 1, 1) := by decide +kernel
theorem dX4_isDearer_5 : decode cX4_isDearer 5 = .ok (.iaload, 1) := by decide +kernel
theorem dX4_isDearer_6 : decode cX4_isDearer 6 = .ok (.aload_n 0, 1) := by decide +kernel
theorem dX4_isDearer_7 : decode cX4_isDearer 7 = .ok (.getfield 9, 3) := by decide +kernel
theorem dX4_isDearer_10 : decode cX4_isDearer 10 = .ok (.iload_n 2, 1) := by decide +kernel
theorem dX4_isDearer_11 : decode cX4_isDearer 11 = .ok (.iaload, 1) := by decide +kernel
theorem dX4_isDearer_12 : decode cX4_isDearer 12 = .ok (.imul, 1) := by decide +kernel
theorem dX4_isDearer_13 : decode cX4_isDearer 13 = .ok (.aload_n 0, 1) := by decide +kernel
theorem dX4_isDearer_14 : decode cX4_isDearer 14 = .ok (.getfield 15, 3) := by decide +kernel
theorem dX4_isDearer_17 : decode cX4_isDearer 17 = .ok (.iload_n 2, 1) := by decide +kernel
theorem dX4_isDearer_18 : decode cX4_isDearer 18 = .ok (.iaload, 1) := by decide +kernel
theorem dX4_isDearer_19 : decode cX4_isDearer 19 = .ok (.aload_n 0, 1) := by decide +kernel
theorem dX4_isDearer_20 : decode cX4_isDearer 20 = .ok (.getfield 9, 3) := by decide +kernel
theorem dX4_isDearer_23 : decode cX4_isDearer 23 = .ok (.iload_n 1, 1) := by decide +kernel
theorem dX4_isDearer_24 : decode cX4_isDearer 24 = .ok (.iaload, 1) := by decide +kernel
theorem dX4_isDearer_25 : decode cX4_isDearer 25 = .ok (.imul, 1) := by decide +kernel
theorem dX4_isDearer_26 : decode cX4_isDearer 26 = .ok (.if_icmp .le 7, 3) := by decide +kernel
theorem dX4_isDearer_29 : decode cX4_isDearer 29 = .ok (.iconst 1, 1) := by decide +kernel
theorem dX4_isDearer_30 : decode cX4_isDearer 30 = .ok (.goto 4, 3) := by decide +kernel
theorem dX4_isDearer_33 : decode cX4_isDearer 33 = .ok (.iconst 0, 1) := by decide +kernel
theorem dX4_isDearer_34 : decode cX4_isDearer 34 = .ok (.ireturn, 1) := by decide +kernel
theorem dX4_leastSum_0 : decode cX4_leastSum 0 = .ok (.iconst 0, 1) := by decide +kernel
theorem dX4_leastSum_1 : decode cX4_leastSum 1 = .ok (.istore_n 1, 1) := by decide +kernel
theorem dX4_leastSum_2 : decode cX4_leastSum 2 = .ok (.iconst 0, 1) := by decide +kernel
theorem dX4_leastSum_3 : decode cX4_leastSum 3 = .ok (.istore_n 2, 1) := by decide +kernel
theorem dX4_leastSum_4 : decode cX4_leastSum 4 = .ok (.iconst 0, 1) := by decide +kernel
theorem dX4_leastSum_5 : decode cX4_leastSum 5 = .ok (.istore_n 3, 1) := by decide +kernel
theorem dX4_leastSum_6 : decode cX4_leastSum 6 = .ok (.iload_n 3, 1) := by decide +kernel
theorem dX4_leastSum_7 : decode cX4_leastSum 7 = .ok (.aload_n 0, 1) := by decide +kernel
theorem dX4_leastSum_8 : decode cX4_leastSum 8 = .ok (.getfield 21, 3) := by decide +kernel
theorem dX4_leastSum_11 : decode cX4_leastSum 11 = .ok (.if_icmp .ge 45, 3) := by decide +kernel
theorem dX4_leastSum_14 : decode cX4_leastSum 14 = .ok (.iload_n 3, 1) := by decide +kernel
theorem dX4_leastSum_15 : decode cX4_leastSum 15 = .ok (.bipush 6, 2) := by decide +kernel
theorem dX4_leastSum_17 : decode cX4_leastSum 17 = .ok (.if_icmp .ge 39, 3) := by decide +kernel
theorem dX4_leastSum_20 : decode cX4_leastSum 20 = .ok (.iload_n 1, 1) := by decide +kernel
theorem dX4_leastSum_21 : decode cX4_leastSum 21 = .ok (.aload_n 0, 1) := by decide +kernel
theorem dX4_leastSum_22 : decode cX4_leastSum 22 = .ok (.getfield 9, 3) := by decide +kernel
theorem dX4_leastSum_25 : decode cX4_leastSum 25 = .ok (.aload_n 0, 1) := by decide +kernel
theorem dX4_leastSum_26 : decode cX4_leastSum 26 = .ok (.getfield 18, 3) := by decide +kernel
theorem dX4_leastSum_29 : decode cX4_leastSum 29 = .ok (.iload_n 3, 1) := by decide +kernel
theorem dX4_leastSum_30 : decode cX4_leastSum 30 = .ok (.iaload, 1) := by decide +kernel
theorem dX4_leastSum_31 : decode cX4_leastSum 31 = .ok (.iaload, 1) := by decide +kernel
theorem dX4_leastSum_32 : decode cX4_leastSum 32 = .ok (.iadd, 1) := by decide +kernel
theorem dX4_leastSum_33 : decode cX4_leastSum 33 = .ok (.istore_n 1, 1) := by decide +kernel
theorem dX4_leastSum_34 : decode cX4_leastSum 34 = .ok (.iload_n 2, 1) := by decide +kernel
theorem dX4_leastSum_35 : decode cX4_leastSum 35 = .ok (.aload_n 0, 1) := by decide +kernel
theorem dX4_leastSum_36 : decode cX4_leastSum 36 = .ok (.getfield 15, 3) := by decide +kernel
theorem dX4_leastSum_39 : decode cX4_leastSum 39 = .ok (.aload_n 0, 1) := by decide +kernel
theorem dX4_leastSum_40 : decode cX4_leastSum 40 = .ok (.getfield 18, 3) := by decide +kernel
theorem dX4_leastSum_43 : decode cX4_leastSum 43 = .ok (.iload_n 3, 1) := by decide +kernel
theorem dX4_leastSum_44 : decode cX4_leastSum 44 = .ok (.iaload, 1) := by decide +kernel
theorem dX4_leastSum_45 : decode cX4_leastSum 45 = .ok (.iaload, 1) := by decide +kernel
theorem dX4_leastSum_46 : decode cX4_leastSum 46 = .ok (.iload_n 1, 1) := by decide +kernel
theorem dX4_leastSum_47 : decode cX4_leastSum 47 = .ok (.imul, 1) := by decide +kernel
theorem dX4_leastSum_48 : decode cX4_leastSum 48 = .ok (.iadd, 1) := by decide +kernel
theorem dX4_leastSum_49 : decode cX4_leastSum 49 = .ok (.istore_n 2, 1) := by decide +kernel
theorem dX4_leastSum_50 : decode cX4_leastSum 50 = .ok (.iinc 3 1, 3) := by decide +kernel
theorem dX4_leastSum_53 : decode cX4_leastSum 53 = .ok (.goto (-47), 3) := by decide +kernel
theorem dX4_leastSum_56 : decode cX4_leastSum 56 = .ok (.iload_n 2, 1) := by decide +kernel
theorem dX4_leastSum_57 : decode cX4_leastSum 57 = .ok (.ireturn, 1) := by decide +kernel
theorem dX5_init_0 : decode cX5_init 0 = .ok (.aload_n 0, 1) := by decide +kernel
theorem dX5_init_1 : decode cX5_init 1 = .ok (.invokespecial 3, 3) := by decide +kernel
theorem dX5_init_4 : decode cX5_init 4 = .ok (.aload_n 0, 1) := by decide +kernel
theorem dX5_init_5 : decode cX5_init 5 = .ok (.sipush 2048, 3) := by decide +kernel
theorem dX5_init_8 : decode cX5_init 8 = .ok (.newarray .int, 2) := by decide +kernel
theorem dX5_init_10 : decode cX5_init 10 = .ok (.putfield 11, 3) := by decide +kernel
theorem dX5_init_13 : decode cX5_init 13 = .ok (.aload_n 0, 1) := by decide +kernel
theorem dX5_init_14 : decode cX5_init 14 = .ok (.sipush 2048, 3) := by decide +kernel
theorem dX5_init_17 : decode cX5_init 17 = .ok (.newarray .int, 2) := by decide +kernel
theorem dX5_init_19 : decode cX5_init 19 = .ok (.putfield 15, 3) := by decide +kernel
theorem dX5_init_22 : decode cX5_init 22 = .ok (.return_, 1) := by decide +kernel
set_option maxRecDepth 20000 in
theorem ggX5_total_J7_fill_53178 : GoodIn wsX5_total wsJ7_fill_53178 := goodIn_r _ [10] (by decide +kernel) (by decide +kernel)
set_option maxRecDepth 20000 in
theorem gX5_total_J7_fill_53178 : GoodIn wsX5_total (va_wsS RX5 29 yJ7_fill_53178 wsJ7_fill_53178) := goodIn_app (goodIn_of _ (by decide +kernel)) ggX5_total_J7_fill_53178
set_option maxRecDepth 20000 in
theorem ggX5_total_X6_myPurse : GoodIn wsX5_total wsX6_myPurse := goodIn_r _ [15, 16, 17, 64, 65, 66, 67, 68, 69, 70, 71, 72, 73] (by decide +kernel) (by decide +kernel)
set_option maxRecDepth 20000 in
theorem gX5_total_X6_myPurse : GoodIn wsX5_total (wsV RX5 35 RX6 yX6_myPurse wsX6_myPurse) := goodIn_app (goodIn_of _ (by decide +kernel)) ggX5_total_X6_myPurse
set_option maxRecDepth 20000 in
theorem ggX5_total_X6_theirPurse : GoodIn wsX5_total wsX6_theirPurse := goodIn_r _ [21, 16, 17, 64, 65, 66, 67, 68, 69, 70, 71, 72, 73] (by decide +kernel) (by decide +kernel)
set_option maxRecDepth 20000 in
theorem gX5_total_X6_theirPurse : GoodIn wsX5_total (wsV RX5 39 RX6 yX6_theirPurse wsX6_theirPurse) := goodIn_app (goodIn_of _ (by decide +kernel)) ggX5_total_X6_theirPurse
set_option maxRecDepth 20000 in
theorem ggX5_total_X6_lasts : GoodIn wsX5_total wsX6_lasts := goodIn_r _ [25, 26, 17, 64, 65, 66, 67, 68, 69, 70, 71, 72, 73] (by decide +kernel) (by decide +kernel)
set_option maxRecDepth 20000 in
theorem gX5_total_X6_lasts : GoodIn wsX5_total (wsV RX5 45 RX6 yX6_lasts wsX6_lasts) := goodIn_app (goodIn_of _ (by decide +kernel)) ggX5_total_X6_lasts
set_option maxRecDepth 20000 in
theorem ggX5_total_X5_totalFrom : GoodIn wsX5_total wsX5_totalFrom := goodIn_r _ [31, 32, 4, 33, 1, 34, 35, 3, 36, 37, 30, 38, 39, 40, 41, 42, 43, 44, 45, 46, 47, 48, 49, 50, 51, 52, 53, 54, 55, 56, 57, 58, 59, 27, 28, 29, 60, 61, 62, 63, 74, 75, 76, 77, 78, 79] (by decide +kernel) (by decide +kernel)
set_option maxRecDepth 20000 in
theorem gX5_total_X5_totalFrom : GoodIn wsX5_total (wsV RX5 51 RX5 yX5_totalFrom wsX5_totalFrom) := goodIn_app (goodIn_of _ (by decide +kernel)) ggX5_total_X5_totalFrom
theorem dX5_total_0 : decode cX5_total 0 = .ok (.aload_n 0, 1) := by decide +kernel
theorem dX5_total_1 : decode cX5_total 1 = .ok (.aload_n 1, 1) := by decide +kernel
theorem dX5_total_2 : decode cX5_total 2 = .ok (.putfield 18, 3) := by decide +kernel
theorem dX5_total_5 : decode cX5_total 5 = .ok (.aload_n 0, 1) := by decide +kernel
theorem dX5_total_6 : decode cX5_total 6 = .ok (.aload_n 2, 1) := by decide +kernel
theorem dX5_total_7 : decode cX5_total 7 = .ok (.getfield 22, 3) := by decide +kernel
theorem dX5_total_10 : decode cX5_total 10 = .ok (.putfield 28, 3) := by decide +kernel
theorem dX5_total_13 : decode cX5_total 13 = .ok (.aload_n 0, 1) := by decide +kernel
theorem dX5_total_14 : decode cX5_total 14 = .ok (.getfield 11, 3) := by decide +kernel
theorem dX5_total_17 : decode cX5_total 17 = .ok (.iconst 0, 1) := by decide +kernel
theorem dX5_total_18 : decode cX5_total 18 = .ok (.invokestatic 29, 3) := by decide +kernel
theorem dX5_total_21 : decode cX5_total 21 = .ok (.bipush 8, 2) := by decide +kernel
theorem dX5_total_23 : decode cX5_total 23 = .ok (.aload_n 2, 1) := by decide +kernel
theorem dX5_total_24 : decode cX5_total 24 = .ok (.invokevirtual 35, 3) := by decide +kernel
theorem dX5_total_27 : decode cX5_total 27 = .ok (.imul, 1) := by decide +kernel
theorem dX5_total_28 : decode cX5_total 28 = .ok (.aload_n 2, 1) := by decide +kernel
theorem dX5_total_29 : decode cX5_total 29 = .ok (.invokevirtual 39, 3) := by decide +kernel
theorem dX5_total_32 : decode cX5_total 32 = .ok (.iadd, 1) := by decide +kernel
theorem dX5_total_33 : decode cX5_total 33 = .ok (.istore 6, 2) := by decide +kernel
theorem dX5_total_35 : decode cX5_total 35 = .ok (.aload_n 0, 1) := by decide +kernel
theorem dX5_total_36 : decode cX5_total 36 = .ok (.iload_n 3, 1) := by decide +kernel
theorem dX5_total_37 : decode cX5_total 37 = .ok (.aload_n 2, 1) := by decide +kernel
theorem dX5_total_38 : decode cX5_total 38 = .ok (.getfield 42, 3) := by decide +kernel
theorem dX5_total_41 : decode cX5_total 41 = .ok (.aload_n 2, 1) := by decide +kernel
theorem dX5_total_42 : decode cX5_total 42 = .ok (.invokevirtual 45, 3) := by decide +kernel
theorem dX5_total_45 : decode cX5_total 45 = .ok (.iload 6, 2) := by decide +kernel
theorem dX5_total_47 : decode cX5_total 47 = .ok (.iload 4, 2) := by decide +kernel
theorem dX5_total_49 : decode cX5_total 49 = .ok (.iload 5, 2) := by decide +kernel
theorem dX5_total_51 : decode cX5_total 51 = .ok (.aload_n 2, 1) := by decide +kernel
theorem dX5_total_52 : decode cX5_total 52 = .ok (.getfield 48, 3) := by decide +kernel
theorem dX5_total_55 : decode cX5_total 55 = .ok (.if_icmp .ne 7, 3) := by decide +kernel
theorem dX5_total_58 : decode cX5_total 58 = .ok (.iconst 1, 1) := by decide +kernel
theorem dX5_total_59 : decode cX5_total 59 = .ok (.goto 4, 3) := by decide +kernel
theorem dX5_total_62 : decode cX5_total 62 = .ok (.iconst 0, 1) := by decide +kernel
theorem dX5_total_63 : decode cX5_total 63 = .ok (.invokevirtual 51, 3) := by decide +kernel
theorem dX5_total_66 : decode cX5_total 66 = .ok (.ireturn, 1) := by decide +kernel
set_option maxRecDepth 20000 in
theorem ggX5_totalFrom_X5_keyOf : GoodIn wsX5_totalFrom wsX5_keyOf := goodIn_r _ [11] (by decide +kernel) (by decide +kernel)
set_option maxRecDepth 20000 in
theorem gX5_totalFrom_X5_keyOf : GoodIn wsX5_totalFrom (va_wsS RX5 55 yX5_keyOf wsX5_keyOf) := goodIn_app (goodIn_of _ (by decide +kernel)) ggX5_totalFrom_X5_keyOf
set_option maxRecDepth 20000 in
theorem ggX5_totalFrom_X1_cost : GoodIn wsX5_totalFrom wsX1_cost := goodIn_r _ [16, 17, 18, 19, 40, 41, 42, 43, 44, 45] (by decide +kernel) (by decide +kernel)
set_option maxRecDepth 20000 in
theorem gX5_totalFrom_X1_cost : GoodIn wsX5_totalFrom (wsV RX5 64 RX1 yX1_cost wsX1_cost) := goodIn_app (goodIn_of _ (by decide +kernel)) ggX5_totalFrom_X1_cost
set_option maxRecDepth 20000 in
theorem ggX5_totalFrom_X5_behind : GoodIn wsX5_totalFrom wsX5_behind := goodIn_r _ [27, 4, 23, 24, 25, 10, 26, 7, 28, 29, 30, 15, 31, 17, 32, 13, 14, 16, 18, 19, 33, 34, 35, 0, 1, 2, 3, 5, 6, 8, 9, 11, 12, 20, 21, 22, 36, 37, 38, 39, 40, 41, 42, 43, 44, 45] (by decide +kernel) (by decide +kernel)
set_option maxRecDepth 20000 in
theorem gX5_totalFrom_X5_behind : GoodIn wsX5_totalFrom (wsV RX5 71 RX5 yX5_behind wsX5_behind) := goodIn_app (goodIn_of _ (by decide +kernel)) ggX5_totalFrom_X5_behind
set_option maxRecDepth 20000 in
theorem ggX5_totalFrom_X5_mayThrow : GoodIn wsX5_totalFrom wsX5_mayThrow := goodIn_r _ [26, 7, 36, 37, 38, 39] (by decide +kernel) (by decide +kernel)
set_option maxRecDepth 20000 in
theorem gX5_totalFrom_X5_mayThrow : GoodIn wsX5_totalFrom (wsV RX5 74 RX5 yX5_mayThrow wsX5_mayThrow) := goodIn_app (goodIn_of _ (by decide +kernel)) ggX5_totalFrom_X5_mayThrow
theorem dX5_totalFrom_0 : decode cX5_totalFrom 0 = .ok (.iload_n 1, 1) := by decide +kernel
theorem dX5_totalFrom_1 : decode cX5_totalFrom 1 = .ok (.ifCond .le 15, 3) := by decide +kernel
theorem dX5_totalFrom_4 : decode cX5_totalFrom 4 = .ok (.iload_n 1, 1) := by decide +kernel
theorem dX5_totalFrom_5 : decode cX5_totalFrom 5 = .ok (.bipush 8, 2) := by decide +kernel
theorem dX5_totalFrom_7 : decode cX5_totalFrom 7 = .ok (.if_icmp .gt 9, 3) := by decide +kernel
theorem dX5_totalFrom_10 : decode cX5_totalFrom 10 = .ok (.iload 5, 2) := by decide +kernel
theorem dX5_totalFrom_12 : decode cX5_totalFrom 12 = .ok (.iload_n 1, 1) := by decide +kernel
theorem dX5_totalFrom_13 : decode cX5_totalFrom 13 = .ok (.if_icmp .le 5, 3) := by decide +kernel
theorem dX5_totalFrom_16 : decode cX5_totalFrom 16 = .ok (.iconst 0, 1) := by decide +kernel
theorem dX5_totalFrom_17 : decode cX5_totalFrom 17 = .ok (.ireturn, 1) := by decide +kernel
theorem dX5_totalFrom_18 : decode cX5_totalFrom 18 = .ok (.iload_n 1, 1) := by decide +kernel
theorem dX5_totalFrom_19 : decode cX5_totalFrom 19 = .ok (.iload_n 2, 1) := by decide +kernel
theorem dX5_totalFrom_20 : decode cX5_totalFrom 20 = .ok (.iload_n 3, 1) := by decide +kernel
theorem dX5_totalFrom_21 : decode cX5_totalFrom 21 = .ok (.iload 4, 2) := by decide +kernel
theorem dX5_totalFrom_23 : decode cX5_totalFrom 23 = .ok (.iload 5, 2) := by decide +kernel
theorem dX5_totalFrom_25 : decode cX5_totalFrom 25 = .ok (.iload 6, 2) := by decide +kernel
theorem dX5_totalFrom_27 : decode cX5_totalFrom 27 = .ok (.invokestatic 55, 3) := by decide +kernel
theorem dX5_totalFrom_30 : decode cX5_totalFrom 30 = .ok (.istore 7, 2) := by decide +kernel
theorem dX5_totalFrom_32 : decode cX5_totalFrom 32 = .ok (.iload 7, 2) := by decide +kernel
theorem dX5_totalFrom_34 : decode cX5_totalFrom 34 = .ok (.ldc 58, 2) := by decide +kernel
theorem dX5_totalFrom_36 : decode cX5_totalFrom 36 = .ok (.imul, 1) := by decide +kernel
theorem dX5_totalFrom_37 : decode cX5_totalFrom 37 = .ok (.bipush 21, 2) := by decide +kernel
theorem dX5_totalFrom_39 : decode cX5_totalFrom 39 = .ok (.iushr, 1) := by decide +kernel
theorem dX5_totalFrom_40 : decode cX5_totalFrom 40 = .ok (.istore 8, 2) := by decide +kernel
theorem dX5_totalFrom_42 : decode cX5_totalFrom 42 = .ok (.aload_n 0, 1) := by decide +kernel
theorem dX5_totalFrom_43 : decode cX5_totalFrom 43 = .ok (.getfield 11, 3) := by decide +kernel
theorem dX5_totalFrom_46 : decode cX5_totalFrom 46 = .ok (.iload 8, 2) := by decide +kernel
theorem dX5_totalFrom_48 : decode cX5_totalFrom 48 = .ok (.iaload, 1) := by decide +kernel
theorem dX5_totalFrom_49 : decode cX5_totalFrom 49 = .ok (.iload 7, 2) := by decide +kernel
theorem dX5_totalFrom_51 : decode cX5_totalFrom 51 = .ok (.if_icmp .ne 11, 3) := by decide +kernel
theorem dX5_totalFrom_54 : decode cX5_totalFrom 54 = .ok (.aload_n 0, 1) := by decide +kernel
theorem dX5_totalFrom_55 : decode cX5_totalFrom 55 = .ok (.getfield 15, 3) := by decide +kernel
theorem dX5_totalFrom_58 : decode cX5_totalFrom 58 = .ok (.iload 8, 2) := by decide +kernel
theorem dX5_totalFrom_60 : decode cX5_totalFrom 60 = .ok (.iaload, 1) := by decide +kernel
theorem dX5_totalFrom_61 : decode cX5_totalFrom 61 = .ok (.ireturn, 1) := by decide +kernel
theorem dX5_totalFrom_62 : decode cX5_totalFrom 62 = .ok (.iload 5, 2) := by decide +kernel
theorem dX5_totalFrom_64 : decode cX5_totalFrom 64 = .ok (.ifCond .ne 12, 3) := by decide +kernel
theorem dX5_totalFrom_67 : decode cX5_totalFrom 67 = .ok (.iload 6, 2) := by decide +kernel
theorem dX5_totalFrom_69 : decode cX5_totalFrom 69 = .ok (.ifCond .ne 7, 3) := by decide +kernel
theorem dX5_totalFrom_72 : decode cX5_totalFrom 72 = .ok (.iconst 1, 1) := by decide +kernel
theorem dX5_totalFrom_73 : decode cX5_totalFrom 73 = .ok (.goto 4, 3) := by decide +kernel
theorem dX5_totalFrom_76 : decode cX5_totalFrom 76 = .ok (.iconst 0, 1) := by decide +kernel
theorem dX5_totalFrom_77 : decode cX5_totalFrom 77 = .ok (.istore 9, 2) := by decide +kernel
theorem dX5_totalFrom_79 : decode cX5_totalFrom 79 = .ok (.iconst 0, 1) := by decide +kernel
theorem dX5_totalFrom_80 : decode cX5_totalFrom 80 = .ok (.istore 10, 2) := by decide +kernel
theorem dX5_totalFrom_82 : decode cX5_totalFrom 82 = .ok (.iload 10, 2) := by decide +kernel
theorem dX5_totalFrom_84 : decode cX5_totalFrom 84 = .ok (.aload_n 0, 1) := by decide +kernel
theorem dX5_totalFrom_85 : decode cX5_totalFrom 85 = .ok (.getfield 18, 3) := by decide +kernel
theorem dX5_totalFrom_88 : decode cX5_totalFrom 88 = .ok (.getfield 59, 3) := by decide +kernel
theorem dX5_totalFrom_91 : decode cX5_totalFrom 91 = .ok (.if_icmp .ge 107, 3) := by decide +kernel
theorem dX5_totalFrom_94 : decode cX5_totalFrom 94 = .ok (.iload_n 2, 1) := by decide +kernel
theorem dX5_totalFrom_95 : decode cX5_totalFrom 95 = .ok (.aload_n 0, 1) := by decide +kernel
theorem dX5_totalFrom_96 : decode cX5_totalFrom 96 = .ok (.getfield 18, 3) := by decide +kernel
theorem dX5_totalFrom_99 : decode cX5_totalFrom 99 = .ok (.iload 10, 2) := by decide +kernel
theorem dX5_totalFrom_101 : decode cX5_totalFrom 101 = .ok (.iload_n 3, 1) := by decide +kernel
theorem dX5_totalFrom_102 : decode cX5_totalFrom 102 = .ok (.bipush 8, 2) := by decide +kernel
theorem dX5_totalFrom_104 : decode cX5_totalFrom 104 = .ok (.idiv, 1) := by decide +kernel
theorem dX5_totalFrom_105 : decode cX5_totalFrom 105 = .ok (.iconst 1, 1) := by decide +kernel
theorem dX5_totalFrom_106 : decode cX5_totalFrom 106 = .ok (.isub, 1) := by decide +kernel
theorem dX5_totalFrom_107 : decode cX5_totalFrom 107 = .ok (.invokevirtual 64, 3) := by decide +kernel
theorem dX5_totalFrom_110 : decode cX5_totalFrom 110 = .ok (.isub, 1) := by decide +kernel
theorem dX5_totalFrom_111 : decode cX5_totalFrom 111 = .ok (.istore 11, 2) := by decide +kernel
theorem dX5_totalFrom_113 : decode cX5_totalFrom 113 = .ok (.iload 11, 2) := by decide +kernel
theorem dX5_totalFrom_115 : decode cX5_totalFrom 115 = .ok (.ifCond .lt 77, 3) := by decide +kernel
theorem dX5_totalFrom_118 : decode cX5_totalFrom 118 = .ok (.aload_n 0, 1) := by decide +kernel
theorem dX5_totalFrom_119 : decode cX5_totalFrom 119 = .ok (.getfield 18, 3) := by decide +kernel
theorem dX5_totalFrom_122 : decode cX5_totalFrom 122 = .ok (.getfield 68, 3) := by decide +kernel
theorem dX5_totalFrom_125 : decode cX5_totalFrom 125 = .ok (.ifCond .ne 7, 3) := by decide +kernel
theorem dX5_totalFrom_128 : decode cX5_totalFrom 128 = .ok (.iconst 0, 1) := by decide +kernel
theorem dX5_totalFrom_129 : decode cX5_totalFrom 129 = .ok (.goto 15, 3) := by decide +kernel
theorem dX5_totalFrom_132 : decode cX5_totalFrom 132 = .ok (.bipush 8, 2) := by decide +kernel
theorem dX5_totalFrom_134 : decode cX5_totalFrom 134 = .ok (.iload_n 3, 1) := by decide +kernel
theorem dX5_totalFrom_135 : decode cX5_totalFrom 135 = .ok (.bipush 8, 2) := by decide +kernel
theorem dX5_totalFrom_137 : decode cX5_totalFrom 137 = .ok (.irem, 1) := by decide +kernel
theorem dX5_totalFrom_138 : decode cX5_totalFrom 138 = .ok (.imul, 1) := by decide +kernel
theorem dX5_totalFrom_139 : decode cX5_totalFrom 139 = .ok (.iload 10, 2) := by decide +kernel
theorem dX5_totalFrom_141 : decode cX5_totalFrom 141 = .ok (.iadd, 1) := by decide +kernel
theorem dX5_totalFrom_142 : decode cX5_totalFrom 142 = .ok (.iconst 1, 1) := by decide +kernel
theorem dX5_totalFrom_143 : decode cX5_totalFrom 143 = .ok (.iadd, 1) := by decide +kernel
theorem dX5_totalFrom_144 : decode cX5_totalFrom 144 = .ok (.istore 12, 2) := by decide +kernel
theorem dX5_totalFrom_146 : decode cX5_totalFrom 146 = .ok (.bipush 8, 2) := by decide +kernel
theorem dX5_totalFrom_148 : decode cX5_totalFrom 148 = .ok (.iload 4, 2) := by decide +kernel
theorem dX5_totalFrom_150 : decode cX5_totalFrom 150 = .ok (.bipush 8, 2) := by decide +kernel
theorem dX5_totalFrom_152 : decode cX5_totalFrom 152 = .ok (.irem, 1) := by decide +kernel
theorem dX5_totalFrom_153 : decode cX5_totalFrom 153 = .ok (.imul, 1) := by decide +kernel
theorem dX5_totalFrom_154 : decode cX5_totalFrom 154 = .ok (.iload 4, 2) := by decide +kernel
theorem dX5_totalFrom_156 : decode cX5_totalFrom 156 = .ok (.bipush 8, 2) := by decide +kernel
theorem dX5_totalFrom_158 : decode cX5_totalFrom 158 = .ok (.idiv, 1) := by decide +kernel
theorem dX5_totalFrom_159 : decode cX5_totalFrom 159 = .ok (.iadd, 1) := by decide +kernel
theorem dX5_totalFrom_160 : decode cX5_totalFrom 160 = .ok (.istore 13, 2) := by decide +kernel
theorem dX5_totalFrom_162 : decode cX5_totalFrom 162 = .ok (.iload 9, 2) := by decide +kernel
theorem dX5_totalFrom_164 : decode cX5_totalFrom 164 = .ok (.aload_n 0, 1) := by decide +kernel
theorem dX5_totalFrom_165 : decode cX5_totalFrom 165 = .ok (.iload_n 1, 1) := by decide +kernel
theorem dX5_totalFrom_166 : decode cX5_totalFrom 166 = .ok (.iconst 1, 1) := by decide +kernel
theorem dX5_totalFrom_167 : decode cX5_totalFrom 167 = .ok (.isub, 1) := by decide +kernel
theorem dX5_totalFrom_168 : decode cX5_totalFrom 168 = .ok (.iload 11, 2) := by decide +kernel
theorem dX5_totalFrom_170 : decode cX5_totalFrom 170 = .ok (.iload 12, 2) := by decide +kernel
theorem dX5_totalFrom_172 : decode cX5_totalFrom 172 = .ok (.iload 13, 2) := by decide +kernel
theorem dX5_totalFrom_174 : decode cX5_totalFrom 174 = .ok (.iload 5, 2) := by decide +kernel
theorem dX5_totalFrom_176 : decode cX5_totalFrom 176 = .ok (.iload 6, 2) := by decide +kernel
theorem dX5_totalFrom_178 : decode cX5_totalFrom 178 = .ok (.ifCond .ne 7, 3) := by decide +kernel
theorem dX5_totalFrom_181 : decode cX5_totalFrom 181 = .ok (.iconst 1, 1) := by decide +kernel
theorem dX5_totalFrom_182 : decode cX5_totalFrom 182 = .ok (.goto 4, 3) := by decide +kernel
theorem dX5_totalFrom_185 : decode cX5_totalFrom 185 = .ok (.iconst 0, 1) := by decide +kernel
theorem dX5_totalFrom_186 : decode cX5_totalFrom 186 = .ok (.invokevirtual 71, 3) := by decide +kernel
theorem dX5_totalFrom_189 : decode cX5_totalFrom 189 = .ok (.iadd, 1) := by decide +kernel
theorem dX5_totalFrom_190 : decode cX5_totalFrom 190 = .ok (.istore 9, 2) := by decide +kernel
theorem dX5_totalFrom_192 : decode cX5_totalFrom 192 = .ok (.iinc 10 1, 3) := by decide +kernel
theorem dX5_totalFrom_195 : decode cX5_totalFrom 195 = .ok (.goto (-113), 3) := by decide +kernel
theorem dX5_totalFrom_198 : decode cX5_totalFrom 198 = .ok (.iload 5, 2) := by decide +kernel
theorem dX5_totalFrom_200 : decode cX5_totalFrom 200 = .ok (.ifCond .le 43, 3) := by decide +kernel
theorem dX5_totalFrom_203 : decode cX5_totalFrom 203 = .ok (.aload_n 0, 1) := by decide +kernel
theorem dX5_totalFrom_204 : decode cX5_totalFrom 204 = .ok (.iload_n 2, 1) := by decide +kernel
theorem dX5_totalFrom_205 : decode cX5_totalFrom 205 = .ok (.iload 4, 2) := by decide +kernel
theorem dX5_totalFrom_207 : decode cX5_totalFrom 207 = .ok (.invokevirtual 74, 3) := by decide +kernel
theorem dX5_totalFrom_210 : decode cX5_totalFrom 210 = .ok (.ifCond .eq 33, 3) := by decide +kernel
theorem dX5_totalFrom_213 : decode cX5_totalFrom 213 = .ok (.iload 9, 2) := by decide +kernel
theorem dX5_totalFrom_215 : decode cX5_totalFrom 215 = .ok (.aload_n 0, 1) := by decide +kernel
theorem dX5_totalFrom_216 : decode cX5_totalFrom 216 = .ok (.iload_n 1, 1) := by decide +kernel
theorem dX5_totalFrom_217 : decode cX5_totalFrom 217 = .ok (.iconst 1, 1) := by decide +kernel
theorem dX5_totalFrom_218 : decode cX5_totalFrom 218 = .ok (.isub, 1) := by decide +kernel
theorem dX5_totalFrom_219 : decode cX5_totalFrom 219 = .ok (.iload_n 2, 1) := by decide +kernel
theorem dX5_totalFrom_220 : decode cX5_totalFrom 220 = .ok (.aload_n 0, 1) := by decide +kernel
theorem dX5_totalFrom_221 : decode cX5_totalFrom 221 = .ok (.getfield 28, 3) := by decide +kernel
theorem dX5_totalFrom_224 : decode cX5_totalFrom 224 = .ok (.iadd, 1) := by decide +kernel
theorem dX5_totalFrom_225 : decode cX5_totalFrom 225 = .ok (.iload_n 3, 1) := by decide +kernel
theorem dX5_totalFrom_226 : decode cX5_totalFrom 226 = .ok (.iload 4, 2) := by decide +kernel
theorem dX5_totalFrom_228 : decode cX5_totalFrom 228 = .ok (.bipush 8, 2) := by decide +kernel
theorem dX5_totalFrom_230 : decode cX5_totalFrom 230 = .ok (.isub, 1) := by decide +kernel
theorem dX5_totalFrom_231 : decode cX5_totalFrom 231 = .ok (.iload 5, 2) := by decide +kernel
theorem dX5_totalFrom_233 : decode cX5_totalFrom 233 = .ok (.iconst 1, 1) := by decide +kernel
theorem dX5_totalFrom_234 : decode cX5_totalFrom 234 = .ok (.isub, 1) := by decide +kernel
theorem dX5_totalFrom_235 : decode cX5_totalFrom 235 = .ok (.iload 6, 2) := by decide +kernel
theorem dX5_totalFrom_237 : decode cX5_totalFrom 237 = .ok (.invokevirtual 71, 3) := by decide +kernel
theorem dX5_totalFrom_240 : decode cX5_totalFrom 240 = .ok (.iadd, 1) := by decide +kernel
theorem dX5_totalFrom_241 : decode cX5_totalFrom 241 = .ok (.istore 9, 2) := by decide +kernel
theorem dX5_totalFrom_243 : decode cX5_totalFrom 243 = .ok (.aload_n 0, 1) := by decide +kernel
theorem dX5_totalFrom_244 : decode cX5_totalFrom 244 = .ok (.getfield 11, 3) := by decide +kernel
theorem dX5_totalFrom_247 : decode cX5_totalFrom 247 = .ok (.iload 8, 2) := by decide +kernel
theorem dX5_totalFrom_249 : decode cX5_totalFrom 249 = .ok (.iload 7, 2) := by decide +kernel
theorem dX5_totalFrom_251 : decode cX5_totalFrom 251 = .ok (.iastore, 1) := by decide +kernel
theorem dX5_totalFrom_252 : decode cX5_totalFrom 252 = .ok (.aload_n 0, 1) := by decide +kernel
theorem dX5_totalFrom_253 : decode cX5_totalFrom 253 = .ok (.getfield 15, 3) := by decide +kernel
theorem dX5_totalFrom_256 : decode cX5_totalFrom 256 = .ok (.iload 8, 2) := by decide +kernel
theorem dX5_totalFrom_258 : decode cX5_totalFrom 258 = .ok (.iload 9, 2) := by decide +kernel
theorem dX5_totalFrom_260 : decode cX5_totalFrom 260 = .ok (.iastore, 1) := by decide +kernel
theorem dX5_totalFrom_261 : decode cX5_totalFrom 261 = .ok (.iload 9, 2) := by decide +kernel
theorem dX5_totalFrom_263 : decode cX5_totalFrom 263 = .ok (.ireturn, 1) := by decide +kernel
set_option maxRecDepth 20000 in
theorem ggX5_behind_X5_mayThrow : GoodIn wsX5_behind wsX5_mayThrow := goodIn_r _ [6, 7, 36, 37, 38, 39] (by decide +kernel) (by decide +kernel)
set_option maxRecDepth 20000 in
theorem gX5_behind_X5_mayThrow : GoodIn wsX5_behind (wsV RX5 74 RX5 yX5_mayThrow wsX5_mayThrow) := goodIn_app (goodIn_of _ (by decide +kernel)) ggX5_behind_X5_mayThrow
set_option maxRecDepth 20000 in
theorem ggX5_behind_X1_anyWordFits : GoodIn wsX5_behind wsX1_anyWordFits := goodIn_r _ [12, 13, 14, 15, 16, 11, 17, 18, 19, 40, 41, 42, 43, 44, 45] (by decide +kernel) (by decide +kernel)
set_option maxRecDepth 20000 in
theorem gX5_behind_X1_anyWordFits : GoodIn wsX5_behind (wsV RX5 78 RX1 yX1_anyWordFits wsX1_anyWordFits) := goodIn_app (goodIn_of _ (by decide +kernel)) ggX5_behind_X1_anyWordFits
set_option maxRecDepth 20000 in
theorem ggX5_behind_X5_totalFrom : GoodIn wsX5_behind wsX5_totalFrom := goodIn_r _ [23, 24, 25, 26, 1, 27, 28, 7, 29, 30, 5, 31, 32, 15, 16, 11, 17, 13, 18, 19, 33, 34, 35, 2, 3, 4, 6, 0, 8, 9, 10, 12, 14, 20, 21, 22, 36, 37, 38, 39, 40, 41, 42, 43, 44, 45] (by decide +kernel) (by decide +kernel)
set_option maxRecDepth 20000 in
theorem gX5_behind_X5_totalFrom : GoodIn wsX5_behind (wsV RX5 51 RX5 yX5_totalFrom wsX5_totalFrom) := goodIn_app (goodIn_of _ (by decide +kernel)) ggX5_behind_X5_totalFrom
