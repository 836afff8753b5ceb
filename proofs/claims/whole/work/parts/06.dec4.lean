theorem dX11_fairness_0 : decode cX11_fairness 0 = .ok (.iload_n 0, 1) := by decide +kernel
theorem dX11_fairness_1 : decode cX11_fairness 1 = .ok (.ifCond .eq 13, 3) := by decide +kernel
theorem dX11_fairness_4 : decode cX11_fairness 4 = .ok (.iload_n 1, 1) := by decide +kernel
theorem dX11_fairness_5 : decode cX11_fairness 5 = .ok (.ifCond .eq 7, 3) := by decide +kernel
theorem dX11_fairness_8 : decode cX11_fairness 8 = .ok (.iconst 0, 1) := by decide +kernel
theorem dX11_fairness_9 : decode cX11_fairness 9 = .ok (.goto 4, 3) := by decide +kernel
theorem dX11_fairness_12 : decode cX11_fairness 12 = .ok (.iconst 1, 1) := by decide +kernel
theorem dX11_fairness_13 : decode cX11_fairness 13 = .ok (.ireturn, 1) := by decide +kernel
theorem dX11_fairness_14 : decode cX11_fairness 14 = .ok (.iload_n 1, 1) := by decide +kernel
theorem dX11_fairness_15 : decode cX11_fairness 15 = .ok (.ifCond .eq 7, 3) := by decide +kernel
theorem dX11_fairness_18 : decode cX11_fairness 18 = .ok (.iconst 2, 1) := by decide +kernel
theorem dX11_fairness_19 : decode cX11_fairness 19 = .ok (.goto 4, 3) := by decide +kernel
theorem dX11_fairness_22 : decode cX11_fairness 22 = .ok (.iconst 3, 1) := by decide +kernel
theorem dX11_fairness_23 : decode cX11_fairness 23 = .ok (.ireturn, 1) := by decide +kernel
set_option maxRecDepth 20000 in
theorem ggX11_startWinners_X1_verseOf : GoodIn wsX11_startWinners wsX1_verseOf := goodIn_r _ [8, 9, 10, 11, 12, 7, 13, 14, 112, 113, 114, 115, 116, 117] (by decide +kernel) (by decide +kernel)
set_option maxRecDepth 20000 in
theorem gX11_startWinners_X1_verseOf : GoodIn wsX11_startWinners (wsV RX11 248 RX1 yX1_verseOf wsX1_verseOf) := goodIn_app (goodIn_of _ (by decide +kernel)) ggX11_startWinners_X1_verseOf
set_option maxRecDepth 20000 in
theorem ggX11_startWinners_X0_winners : GoodIn wsX11_startWinners wsX0_winners := goodIn_r _ [19, 20, 21, 22, 23, 24, 18, 25, 26, 27, 28, 29, 30, 31, 32, 33, 34, 35, 36, 37, 38, 39, 40, 41, 42, 43, 44, 45, 46, 47, 48, 49, 50, 51, 52, 53, 54, 55, 56, 57, 58, 59, 60, 61, 62, 63, 7, 64, 65, 66, 67, 68, 69, 70, 71, 72, 73, 74, 75, 76, 77, 78, 79, 80, 81, 82, 83, 84, 85, 86, 87, 88, 89, 90, 91, 92, 93, 94, 118, 119, 120, 121, 122, 123, 124, 125, 126, 127, 128, 112, 113, 114, 115, 116, 117] (by decide +kernel) (by decide +kernel)
set_option maxRecDepth 20000 in
theorem gX11_startWinners_X0_winners : GoodIn wsX11_startWinners (wsV RX11 220 RX0 yX0_winners wsX0_winners) := goodIn_app (goodIn_of _ (by decide +kernel)) ggX11_startWinners_X0_winners
theorem dX11_startWinners_0 : decode cX11_startWinners 0 = .ok (.aload_n 0, 1) := by decide +kernel
theorem dX11_startWinners_1 : decode cX11_startWinners 1 = .ok (.getfield 22, 3) := by decide +kernel
theorem dX11_startWinners_4 : decode cX11_startWinners 4 = .ok (.getfield 108, 3) := by decide +kernel
theorem dX11_startWinners_7 : decode cX11_startWinners 7 = .ok (.iload_n 1, 1) := by decide +kernel
theorem dX11_startWinners_8 : decode cX11_startWinners 8 = .ok (.invokevirtual 248, 3) := by decide +kernel
theorem dX11_startWinners_11 : decode cX11_startWinners 11 = .ok (.istore_n 3, 1) := by decide +kernel
theorem dX11_startWinners_12 : decode cX11_startWinners 12 = .ok (.aload_n 0, 1) := by decide +kernel
theorem dX11_startWinners_13 : decode cX11_startWinners 13 = .ok (.getfield 47, 3) := by decide +kernel
theorem dX11_startWinners_16 : decode cX11_startWinners 16 = .ok (.aload_n 0, 1) := by decide +kernel
theorem dX11_startWinners_17 : decode cX11_startWinners 17 = .ok (.getfield 22, 3) := by decide +kernel
theorem dX11_startWinners_20 : decode cX11_startWinners 20 = .ok (.getfield 108, 3) := by decide +kernel
theorem dX11_startWinners_23 : decode cX11_startWinners 23 = .ok (.iload_n 3, 1) := by decide +kernel
theorem dX11_startWinners_24 : decode cX11_startWinners 24 = .ok (.iload_n 3, 1) := by decide +kernel
theorem dX11_startWinners_25 : decode cX11_startWinners 25 = .ok (.iconst 0, 1) := by decide +kernel
theorem dX11_startWinners_26 : decode cX11_startWinners 26 = .ok (.iload_n 2, 1) := by decide +kernel
theorem dX11_startWinners_27 : decode cX11_startWinners 27 = .ok (.invokevirtual 220, 3) := by decide +kernel
theorem dX11_startWinners_30 : decode cX11_startWinners 30 = .ok (.lreturn, 1) := by decide +kernel
set_option maxRecDepth 20000 in
theorem ggX11_bribe_X11_isSide : GoodIn wsX11_bribe wsX11_isSide := goodIn_r _ [7] (by decide +kernel) (by decide +kernel)
set_option maxRecDepth 20000 in
theorem gX11_bribe_X11_isSide : GoodIn wsX11_bribe (va_wsS RX11 115 yX11_isSide wsX11_isSide) := goodIn_app (goodIn_of _ (by decide +kernel)) ggX11_bribe_X11_isSide
set_option maxRecDepth 20000 in
theorem ggX11_bribe_X11_bribedHas : GoodIn wsX11_bribe wsX11_bribedHas := goodIn_r _ [11, 1, 2, 12, 13, 14, 15, 16, 17, 18, 19, 20, 21, 22, 23, 24, 6, 25, 26, 27, 28, 29, 30, 31, 32, 33, 34, 35, 36, 37, 38, 39, 40, 41, 42, 43, 44, 45, 46, 47, 48, 49, 50, 51, 52, 53, 54, 55, 56, 57, 58, 59, 60, 61, 62, 63, 64, 65, 66, 67, 68, 69, 70, 71, 72, 73, 74, 75, 76, 77, 78, 79, 80, 81, 82, 83, 84, 85, 86, 87, 88, 89, 90, 91, 92, 93, 94, 95, 96, 97, 98, 99, 100, 101, 102, 103, 104, 105, 106, 107, 108, 109, 110, 111, 112, 113, 114, 115, 116, 117, 118, 119, 120, 121, 122, 123, 124, 125, 126, 127, 128, 129, 130, 131, 132, 133, 134, 135, 136, 137, 138, 139, 140, 141, 142, 143, 144, 145, 146, 147, 148, 149, 150, 151, 152, 153, 154, 155, 156, 157, 158, 159, 160, 161, 162, 163, 164, 165, 166] (by decide +kernel) (by decide +kernel)
set_option maxRecDepth 20000 in
theorem gX11_bribe_X11_bribedHas : GoodIn wsX11_bribe (wsV RX11 252 RX11 yX11_bribedHas wsX11_bribedHas) := goodIn_app (goodIn_of _ (by decide +kernel)) ggX11_bribe_X11_bribedHas
theorem dX11_bribe_0 : decode cX11_bribe 0 = .ok (.iload_n 1, 1) := by decide +kernel
theorem dX11_bribe_1 : decode cX11_bribe 1 = .ok (.invokestatic 115, 3) := by decide +kernel
theorem dX11_bribe_4 : decode cX11_bribe 4 = .ok (.ifCond .eq 16, 3) := by decide +kernel
theorem dX11_bribe_7 : decode cX11_bribe 7 = .ok (.aload_n 0, 1) := by decide +kernel
theorem dX11_bribe_8 : decode cX11_bribe 8 = .ok (.getfield 22, 3) := by decide +kernel
theorem dX11_bribe_11 : decode cX11_bribe 11 = .ok (.getfield 118, 3) := by decide +kernel
theorem dX11_bribe_14 : decode cX11_bribe 14 = .ok (.getfield 149, 3) := by decide +kernel
theorem dX11_bribe_17 : decode cX11_bribe 17 = .ok (.ifCond .ne 7, 3) := by decide +kernel
theorem dX11_bribe_20 : decode cX11_bribe 20 = .ok (.sipush (-200), 3) := by decide +kernel
theorem dX11_bribe_23 : decode cX11_bribe 23 = .ok (.ireturn, 1) := by decide +kernel
theorem dX11_bribe_24 : decode cX11_bribe 24 = .ok (.iconst 0, 1) := by decide +kernel
theorem dX11_bribe_25 : decode cX11_bribe 25 = .ok (.istore_n 2, 1) := by decide +kernel
theorem dX11_bribe_26 : decode cX11_bribe 26 = .ok (.iload_n 2, 1) := by decide +kernel
theorem dX11_bribe_27 : decode cX11_bribe 27 = .ok (.bipush 20, 2) := by decide +kernel
theorem dX11_bribe_29 : decode cX11_bribe 29 = .ok (.if_icmp .gt 37, 3) := by decide +kernel
theorem dX11_bribe_32 : decode cX11_bribe 32 = .ok (.aload_n 0, 1) := by decide +kernel
theorem dX11_bribe_33 : decode cX11_bribe 33 = .ok (.iload_n 1, 1) := by decide +kernel
theorem dX11_bribe_34 : decode cX11_bribe 34 = .ok (.iload_n 2, 1) := by decide +kernel
theorem dX11_bribe_35 : decode cX11_bribe 35 = .ok (.ineg, 1) := by decide +kernel
theorem dX11_bribe_36 : decode cX11_bribe 36 = .ok (.invokevirtual 252, 3) := by decide +kernel
theorem dX11_bribe_39 : decode cX11_bribe 39 = .ok (.ifCond .eq 6, 3) := by decide +kernel
theorem dX11_bribe_42 : decode cX11_bribe 42 = .ok (.iload_n 2, 1) := by decide +kernel
theorem dX11_bribe_43 : decode cX11_bribe 43 = .ok (.ineg, 1) := by decide +kernel
theorem dX11_bribe_44 : decode cX11_bribe 44 = .ok (.ireturn, 1) := by decide +kernel
theorem dX11_bribe_45 : decode cX11_bribe 45 = .ok (.iload_n 2, 1) := by decide +kernel
theorem dX11_bribe_46 : decode cX11_bribe 46 = .ok (.ifCond .le 14, 3) := by decide +kernel
theorem dX11_bribe_49 : decode cX11_bribe 49 = .ok (.aload_n 0, 1) := by decide +kernel
theorem dX11_bribe_50 : decode cX11_bribe 50 = .ok (.iload_n 1, 1) := by decide +kernel
theorem dX11_bribe_51 : decode cX11_bribe 51 = .ok (.iload_n 2, 1) := by decide +kernel
theorem dX11_bribe_52 : decode cX11_bribe 52 = .ok (.invokevirtual 252, 3) := by decide +kernel
theorem dX11_bribe_55 : decode cX11_bribe 55 = .ok (.ifCond .eq 5, 3) := by decide +kernel
theorem dX11_bribe_58 : decode cX11_bribe 58 = .ok (.iload_n 2, 1) := by decide +kernel
theorem dX11_bribe_59 : decode cX11_bribe 59 = .ok (.ireturn, 1) := by decide +kernel
theorem dX11_bribe_60 : decode cX11_bribe 60 = .ok (.iinc 2 1, 3) := by decide +kernel
theorem dX11_bribe_63 : decode cX11_bribe 63 = .ok (.goto (-37), 3) := by decide +kernel
theorem dX11_bribe_66 : decode cX11_bribe 66 = .ok (.bipush (-100), 2) := by decide +kernel
theorem dX11_bribe_68 : decode cX11_bribe 68 = .ok (.ireturn, 1) := by decide +kernel
set_option maxRecDepth 20000 in
theorem ggX11_bribedHas_X11_turnHas : GoodIn wsX11_bribedHas wsX11_turnHas := goodIn_r _ [17, 1, 2, 18, 19, 20, 21, 22, 23, 24, 25, 26, 27, 28, 29, 30, 31, 32, 33, 34, 35, 36, 37, 38, 39, 40, 41, 42, 43, 44, 45, 46, 47, 48, 5, 6, 7, 49, 50, 51, 10, 11, 52, 53, 54, 55, 56, 57, 58, 59, 60, 61, 62, 63, 64, 65, 66, 67, 68, 69, 70, 71, 72, 73, 74, 75, 76, 77, 78, 79, 80, 81, 82, 83, 84, 85, 86, 87, 88, 89, 90, 91, 92, 93, 94, 95, 96, 97, 98, 99, 100, 101, 102, 103, 104, 105, 106, 107, 108, 109, 110, 111, 112, 113, 114, 115, 116, 117, 118, 119, 120, 121, 122, 123, 124, 125, 126, 127, 128, 129, 130, 131, 132, 133, 134, 135, 136, 137, 138, 139, 140, 141, 142, 143, 144, 145, 146, 147, 148, 149, 150, 151, 152, 153, 154, 155, 156, 157, 158] (by decide +kernel) (by decide +kernel)
set_option maxRecDepth 20000 in
theorem gX11_bribedHas_X11_turnHas : GoodIn wsX11_bribedHas (wsV RX11 204 RX11 yX11_turnHas wsX11_turnHas) := goodIn_app (goodIn_of _ (by decide +kernel)) ggX11_bribedHas_X11_turnHas
theorem dX11_bribedHas_0 : decode cX11_bribedHas 0 = .ok (.iconst 1, 1) := by decide +kernel
theorem dX11_bribedHas_1 : decode cX11_bribedHas 1 = .ok (.aload_n 0, 1) := by decide +kernel
theorem dX11_bribedHas_2 : decode cX11_bribedHas 2 = .ok (.getfield 22, 3) := by decide +kernel
theorem dX11_bribedHas_5 : decode cX11_bribedHas 5 = .ok (.getfield 118, 3) := by decide +kernel
theorem dX11_bribedHas_8 : decode cX11_bribedHas 8 = .ok (.getfield 201, 3) := by decide +kernel
theorem dX11_bribedHas_11 : decode cX11_bribedHas 11 = .ok (.iload_n 2, 1) := by decide +kernel
theorem dX11_bribedHas_12 : decode cX11_bribedHas 12 = .ok (.iadd, 1) := by decide +kernel
theorem dX11_bribedHas_13 : decode cX11_bribedHas 13 = .ok (.invokestatic 255, 3) := by decide +kernel
theorem dX11_bribedHas_16 : decode cX11_bribedHas 16 = .ok (.istore_n 3, 1) := by decide +kernel
theorem dX11_bribedHas_17 : decode cX11_bribedHas 17 = .ok (.iconst 0, 1) := by decide +kernel
theorem dX11_bribedHas_18 : decode cX11_bribedHas 18 = .ok (.sipush 200, 3) := by decide +kernel
theorem dX11_bribedHas_21 : decode cX11_bribedHas 21 = .ok (.aload_n 0, 1) := by decide +kernel
theorem dX11_bribedHas_22 : decode cX11_bribedHas 22 = .ok (.getfield 22, 3) := by decide +kernel
theorem dX11_bribedHas_25 : decode cX11_bribedHas 25 = .ok (.getfield 118, 3) := by decide +kernel
theorem dX11_bribedHas_28 : decode cX11_bribedHas 28 = .ok (.getfield 128, 3) := by decide +kernel
theorem dX11_bribedHas_31 : decode cX11_bribedHas 31 = .ok (.iload_n 2, 1) := by decide +kernel
theorem dX11_bribedHas_32 : decode cX11_bribedHas 32 = .ok (.iadd, 1) := by decide +kernel
theorem dX11_bribedHas_33 : decode cX11_bribedHas 33 = .ok (.invokestatic 260, 3) := by decide +kernel
theorem dX11_bribedHas_36 : decode cX11_bribedHas 36 = .ok (.invokestatic 255, 3) := by decide +kernel
theorem dX11_bribedHas_39 : decode cX11_bribedHas 39 = .ok (.istore 4, 2) := by decide +kernel
theorem dX11_bribedHas_41 : decode cX11_bribedHas 41 = .ok (.aload_n 0, 1) := by decide +kernel
theorem dX11_bribedHas_42 : decode cX11_bribedHas 42 = .ok (.iload_n 3, 1) := by decide +kernel
theorem dX11_bribedHas_43 : decode cX11_bribedHas 43 = .ok (.iload 4, 2) := by decide +kernel
theorem dX11_bribedHas_45 : decode cX11_bribedHas 45 = .ok (.invokevirtual 204, 3) := by decide +kernel
theorem dX11_bribedHas_48 : decode cX11_bribedHas 48 = .ok (.iload_n 1, 1) := by decide +kernel
theorem dX11_bribedHas_49 : decode cX11_bribedHas 49 = .ok (.aload_n 0, 1) := by decide +kernel
theorem dX11_bribedHas_50 : decode cX11_bribedHas 50 = .ok (.getfield 22, 3) := by decide +kernel
theorem dX11_bribedHas_53 : decode cX11_bribedHas 53 = .ok (.getfield 118, 3) := by decide +kernel
theorem dX11_bribedHas_56 : decode cX11_bribedHas 56 = .ok (.getfield 208, 3) := by decide +kernel
theorem dX11_bribedHas_59 : decode cX11_bribedHas 59 = .ok (.if_icmp .ne 7, 3) := by decide +kernel
theorem dX11_bribedHas_62 : decode cX11_bribedHas 62 = .ok (.iconst 1, 1) := by decide +kernel
theorem dX11_bribedHas_63 : decode cX11_bribedHas 63 = .ok (.goto 4, 3) := by decide +kernel
theorem dX11_bribedHas_66 : decode cX11_bribedHas 66 = .ok (.iconst 0, 1) := by decide +kernel
theorem dX11_bribedHas_67 : decode cX11_bribedHas 67 = .ok (.if_icmp .ne 7, 3) := by decide +kernel
theorem dX11_bribedHas_70 : decode cX11_bribedHas 70 = .ok (.iconst 1, 1) := by decide +kernel
theorem dX11_bribedHas_71 : decode cX11_bribedHas 71 = .ok (.goto 4, 3) := by decide +kernel
theorem dX11_bribedHas_74 : decode cX11_bribedHas 74 = .ok (.iconst 0, 1) := by decide +kernel
theorem dX11_bribedHas_75 : decode cX11_bribedHas 75 = .ok (.ireturn, 1) := by decide +kernel
set_option maxRecDepth 20000 in
theorem ggX11_plays_X11_isSide : GoodIn wsX11_plays wsX11_isSide := goodIn_r _ [9] (by decide +kernel) (by decide +kernel)
set_option maxRecDepth 20000 in
theorem gX11_plays_X11_isSide : GoodIn wsX11_plays (va_wsS RX11 115 yX11_isSide wsX11_isSide) := goodIn_app (goodIn_of _ (by decide +kernel)) ggX11_plays_X11_isSide
set_option maxRecDepth 20000 in
theorem ggX11_plays_X5_total : GoodIn wsX11_plays wsX5_total := goodIn_r _ [14, 15, 16, 17, 18, 19, 20, 21, 22, 23, 24, 25, 26, 27, 28, 29, 30, 31, 32, 33, 34, 35, 36, 37, 38, 39, 40, 41, 42, 43, 13, 44, 45, 46, 47, 48, 49, 50, 51, 52, 53, 54, 55, 56, 57, 58, 59, 60, 61, 62, 63, 64, 65, 66, 67, 68, 69, 70, 71, 72, 100, 101, 102, 103, 90, 91, 92, 93, 94, 95, 96, 97, 98, 99, 104, 105, 106, 107, 108, 109] (by decide +kernel) (by decide +kernel)
set_option maxRecDepth 20000 in
theorem gX11_plays_X5_total : GoodIn wsX11_plays (wsV RX11 263 RX5 yX5_total wsX5_total) := goodIn_app (goodIn_of _ (by decide +kernel)) ggX11_plays_X5_total
theorem dX11_plays_0 : decode cX11_plays 0 = .ok (.iload_n 1, 1) := by decide +kernel
theorem dX11_plays_1 : decode cX11_plays 1 = .ok (.ifCond .lt 26, 3) := by decide +kernel
theorem dX11_plays_4 : decode cX11_plays 4 = .ok (.iload_n 1, 1) := by decide +kernel
theorem dX11_plays_5 : decode cX11_plays 5 = .ok (.bipush 8, 2) := by decide +kernel
theorem dX11_plays_7 : decode cX11_plays 7 = .ok (.if_icmp .gt 20, 3) := by decide +kernel
theorem dX11_plays_10 : decode cX11_plays 10 = .ok (.iload_n 2, 1) := by decide +kernel
theorem dX11_plays_11 : decode cX11_plays 11 = .ok (.ifCond .lt 16, 3) := by decide +kernel
theorem dX11_plays_14 : decode cX11_plays 14 = .ok (.iload_n 2, 1) := by decide +kernel
theorem dX11_plays_15 : decode cX11_plays 15 = .ok (.bipush 14, 2) := by decide +kernel
theorem dX11_plays_17 : decode cX11_plays 17 = .ok (.if_icmp .gt 10, 3) := by decide +kernel
theorem dX11_plays_20 : decode cX11_plays 20 = .ok (.iload_n 3, 1) := by decide +kernel
theorem dX11_plays_21 : decode cX11_plays 21 = .ok (.invokestatic 115, 3) := by decide +kernel
theorem dX11_plays_24 : decode cX11_plays 24 = .ok (.ifCond .ne 6, 3) := by decide +kernel
theorem dX11_plays_27 : decode cX11_plays 27 = .ok (.bipush (-2), 2) := by decide +kernel
theorem dX11_plays_29 : decode cX11_plays 29 = .ok (.ireturn, 1) := by decide +kernel
theorem dX11_plays_30 : decode cX11_plays 30 = .ok (.aload_n 0, 1) := by decide +kernel
theorem dX11_plays_31 : decode cX11_plays 31 = .ok (.getfield 22, 3) := by decide +kernel
theorem dX11_plays_34 : decode cX11_plays 34 = .ok (.getfield 118, 3) := by decide +kernel
theorem dX11_plays_37 : decode cX11_plays 37 = .ok (.getfield 149, 3) := by decide +kernel
theorem dX11_plays_40 : decode cX11_plays 40 = .ok (.ifCond .ne 6, 3) := by decide +kernel
theorem dX11_plays_43 : decode cX11_plays 43 = .ok (.bipush (-2), 2) := by decide +kernel
theorem dX11_plays_45 : decode cX11_plays 45 = .ok (.ireturn, 1) := by decide +kernel
theorem dX11_plays_46 : decode cX11_plays 46 = .ok (.aload_n 0, 1) := by decide +kernel
theorem dX11_plays_47 : decode cX11_plays 47 = .ok (.getfield 54, 3) := by decide +kernel
theorem dX11_plays_50 : decode cX11_plays 50 = .ok (.aload_n 0, 1) := by decide +kernel
theorem dX11_plays_51 : decode cX11_plays 51 = .ok (.getfield 22, 3) := by decide +kernel
theorem dX11_plays_54 : decode cX11_plays 54 = .ok (.getfield 108, 3) := by decide +kernel
theorem dX11_plays_57 : decode cX11_plays 57 = .ok (.aload_n 0, 1) := by decide +kernel
theorem dX11_plays_58 : decode cX11_plays 58 = .ok (.getfield 22, 3) := by decide +kernel
theorem dX11_plays_61 : decode cX11_plays 61 = .ok (.getfield 118, 3) := by decide +kernel
theorem dX11_plays_64 : decode cX11_plays 64 = .ok (.iload_n 1, 1) := by decide +kernel
theorem dX11_plays_65 : decode cX11_plays 65 = .ok (.iload_n 2, 1) := by decide +kernel
theorem dX11_plays_66 : decode cX11_plays 66 = .ok (.iload_n 3, 1) := by decide +kernel
theorem dX11_plays_67 : decode cX11_plays 67 = .ok (.invokevirtual 263, 3) := by decide +kernel
theorem dX11_plays_70 : decode cX11_plays 70 = .ok (.ireturn, 1) := by decide +kernel
set_option maxRecDepth 20000 in
theorem ggX11_waits_X11_hasCorner : GoodIn wsX11_waits wsX11_hasCorner := goodIn_r _ [8, 1, 9, 10, 19, 20, 21, 22, 23, 24, 25, 26, 27, 28, 29, 30, 31, 32, 33, 34, 35, 40, 41, 42, 43, 44, 45] (by decide +kernel) (by decide +kernel)
set_option maxRecDepth 20000 in
theorem gX11_waits_X11_hasCorner : GoodIn wsX11_waits (wsV RX11 180 RX11 yX11_hasCorner wsX11_hasCorner) := goodIn_app (goodIn_of _ (by decide +kernel)) ggX11_waits_X11_hasCorner
set_option maxRecDepth 20000 in
theorem ggX11_waits_X4_add : GoodIn wsX11_waits wsX4_add := goodIn_r _ [15, 16, 17, 18, 36, 37, 38, 39] (by decide +kernel) (by decide +kernel)
set_option maxRecDepth 20000 in
theorem gX11_waits_X4_add : GoodIn wsX11_waits (wsV RX11 276 RX4 yX4_add wsX4_add) := goodIn_app (goodIn_of _ (by decide +kernel)) ggX11_waits_X4_add
theorem dX11_waits_0 : decode cX11_waits 0 = .ok (.iload_n 1, 1) := by decide +kernel
theorem dX11_waits_1 : decode cX11_waits 1 = .ok (.iconst (-1), 1) := by decide +kernel
theorem dX11_waits_2 : decode cX11_waits 2 = .ok (.if_icmp .ne 16, 3) := by decide +kernel
theorem dX11_waits_5 : decode cX11_waits 5 = .ok (.aload_n 0, 1) := by decide +kernel
theorem dX11_waits_6 : decode cX11_waits 6 = .ok (.getfield 22, 3) := by decide +kernel
theorem dX11_waits_9 : decode cX11_waits 9 = .ok (.getfield 267, 3) := by decide +kernel
theorem dX11_waits_12 : decode cX11_waits 12 = .ok (.iconst 0, 1) := by decide +kernel
theorem dX11_waits_13 : decode cX11_waits 13 = .ok (.putfield 271, 3) := by decide +kernel
theorem dX11_waits_16 : decode cX11_waits 16 = .ok (.iconst 0, 1) := by decide +kernel
theorem dX11_waits_17 : decode cX11_waits 17 = .ok (.ireturn, 1) := by decide +kernel
theorem dX11_waits_18 : decode cX11_waits 18 = .ok (.aload_n 0, 1) := by decide +kernel
theorem dX11_waits_19 : decode cX11_waits 19 = .ok (.invokevirtual 180, 3) := by decide +kernel
theorem dX11_waits_22 : decode cX11_waits 22 = .ok (.ifCond .eq 40, 3) := by decide +kernel
theorem dX11_waits_25 : decode cX11_waits 25 = .ok (.iload_n 1, 1) := by decide +kernel
theorem dX11_waits_26 : decode cX11_waits 26 = .ok (.iconst 1, 1) := by decide +kernel
theorem dX11_waits_27 : decode cX11_waits 27 = .ok (.if_icmp .lt 35, 3) := by decide +kernel
theorem dX11_waits_30 : decode cX11_waits 30 = .ok (.iload_n 1, 1) := by decide +kernel
theorem dX11_waits_31 : decode cX11_waits 31 = .ok (.sipush 999, 3) := by decide +kernel
theorem dX11_waits_34 : decode cX11_waits 34 = .ok (.if_icmp .gt 28, 3) := by decide +kernel
theorem dX11_waits_37 : decode cX11_waits 37 = .ok (.iload_n 2, 1) := by decide +kernel
theorem dX11_waits_38 : decode cX11_waits 38 = .ok (.ifCond .lt 24, 3) := by decide +kernel
theorem dX11_waits_41 : decode cX11_waits 41 = .ok (.iload_n 2, 1) := by decide +kernel
theorem dX11_waits_42 : decode cX11_waits 42 = .ok (.bipush 99, 2) := by decide +kernel
theorem dX11_waits_44 : decode cX11_waits 44 = .ok (.if_icmp .gt 18, 3) := by decide +kernel
theorem dX11_waits_47 : decode cX11_waits 47 = .ok (.aload_n 0, 1) := by decide +kernel
theorem dX11_waits_48 : decode cX11_waits 48 = .ok (.getfield 22, 3) := by decide +kernel
theorem dX11_waits_51 : decode cX11_waits 51 = .ok (.getfield 267, 3) := by decide +kernel
theorem dX11_waits_54 : decode cX11_waits 54 = .ok (.iload_n 1, 1) := by decide +kernel
theorem dX11_waits_55 : decode cX11_waits 55 = .ok (.iload_n 2, 1) := by decide +kernel
theorem dX11_waits_56 : decode cX11_waits 56 = .ok (.invokevirtual 276, 3) := by decide +kernel
theorem dX11_waits_59 : decode cX11_waits 59 = .ok (.ifCond .ne 6, 3) := by decide +kernel
theorem dX11_waits_62 : decode cX11_waits 62 = .ok (.bipush (-2), 2) := by decide +kernel
theorem dX11_waits_64 : decode cX11_waits 64 = .ok (.ireturn, 1) := by decide +kernel
theorem dX11_waits_65 : decode cX11_waits 65 = .ok (.aload_n 0, 1) := by decide +kernel
theorem dX11_waits_66 : decode cX11_waits 66 = .ok (.getfield 22, 3) := by decide +kernel
theorem dX11_waits_69 : decode cX11_waits 69 = .ok (.getfield 267, 3) := by decide +kernel
theorem dX11_waits_72 : decode cX11_waits 72 = .ok (.getfield 271, 3) := by decide +kernel
theorem dX11_waits_75 : decode cX11_waits 75 = .ok (.ireturn, 1) := by decide +kernel
set_option maxRecDepth 20000 in
theorem ggX11_order_X4_arrange : GoodIn wsX11_order wsX4_arrange := goodIn_r _ [9, 10, 11, 12, 13, 14, 8, 15, 16, 17, 39, 40, 41, 42] (by decide +kernel) (by decide +kernel)
set_option maxRecDepth 20000 in
theorem gX11_order_X4_arrange : GoodIn wsX11_order (wsV RX11 279 RX4 yX4_arrange wsX4_arrange) := goodIn_app (goodIn_of _ (by decide +kernel)) ggX11_order_X4_arrange
set_option maxRecDepth 20000 in
theorem ggX11_order_X4_leastSum : GoodIn wsX11_order wsX4_leastSum := goodIn_r _ [21, 10, 17, 11, 16, 39, 40, 41, 42] (by decide +kernel) (by decide +kernel)
set_option maxRecDepth 20000 in
theorem gX11_order_X4_leastSum : GoodIn wsX11_order (wsV RX11 282 RX4 yX4_leastSum wsX4_leastSum) := goodIn_app (goodIn_of _ (by decide +kernel)) ggX11_order_X4_leastSum
theorem dX11_order_0 : decode cX11_order 0 = .ok (.iload_n 1, 1) := by decide +kernel
theorem dX11_order_1 : decode cX11_order 1 = .ok (.ifCond .lt 9, 3) := by decide +kernel
theorem dX11_order_4 : decode cX11_order 4 = .ok (.iload_n 1, 1) := by decide +kernel
theorem dX11_order_5 : decode cX11_order 5 = .ok (.bipush 6, 2) := by decide +kernel
theorem dX11_order_7 : decode cX11_order 7 = .ok (.if_icmp .le 5, 3) := by decide +kernel
theorem dX11_order_10 : decode cX11_order 10 = .ok (.iconst (-1), 1) := by decide +kernel
theorem dX11_order_11 : decode cX11_order 11 = .ok (.ireturn, 1) := by decide +kernel
theorem dX11_order_12 : decode cX11_order 12 = .ok (.aload_n 0, 1) := by decide +kernel
theorem dX11_order_13 : decode cX11_order 13 = .ok (.getfield 22, 3) := by decide +kernel
theorem dX11_order_16 : decode cX11_order 16 = .ok (.getfield 267, 3) := by decide +kernel
theorem dX11_order_19 : decode cX11_order 19 = .ok (.invokevirtual 279, 3) := by decide +kernel
theorem dX11_order_22 : decode cX11_order 22 = .ok (.iload_n 1, 1) := by decide +kernel
theorem dX11_order_23 : decode cX11_order 23 = .ok (.ifCond .ne 14, 3) := by decide +kernel
theorem dX11_order_26 : decode cX11_order 26 = .ok (.aload_n 0, 1) := by decide +kernel
theorem dX11_order_27 : decode cX11_order 27 = .ok (.getfield 22, 3) := by decide +kernel
theorem dX11_order_30 : decode cX11_order 30 = .ok (.getfield 267, 3) := by decide +kernel
theorem dX11_order_33 : decode cX11_order 33 = .ok (.invokevirtual 282, 3) := by decide +kernel
theorem dX11_order_36 : decode cX11_order 36 = .ok (.ireturn, 1) := by decide +kernel
theorem dX11_order_37 : decode cX11_order 37 = .ok (.iload_n 1, 1) := by decide +kernel
theorem dX11_order_38 : decode cX11_order 38 = .ok (.aload_n 0, 1) := by decide +kernel
theorem dX11_order_39 : decode cX11_order 39 = .ok (.getfield 22, 3) := by decide +kernel
theorem dX11_order_42 : decode cX11_order 42 = .ok (.getfield 267, 3) := by decide +kernel
theorem dX11_order_45 : decode cX11_order 45 = .ok (.getfield 271, 3) := by decide +kernel
theorem dX11_order_48 : decode cX11_order 48 = .ok (.if_icmp .gt 20, 3) := by decide +kernel
theorem dX11_order_51 : decode cX11_order 51 = .ok (.aload_n 0, 1) := by decide +kernel
theorem dX11_order_52 : decode cX11_order 52 = .ok (.getfield 22, 3) := by decide +kernel
theorem dX11_order_55 : decode cX11_order 55 = .ok (.getfield 267, 3) := by decide +kernel
theorem dX11_order_58 : decode cX11_order 58 = .ok (.getfield 285, 3) := by decide +kernel
theorem dX11_order_61 : decode cX11_order 61 = .ok (.iload_n 1, 1) := by decide +kernel
theorem dX11_order_62 : decode cX11_order 62 = .ok (.iconst 1, 1) := by decide +kernel
theorem dX11_order_63 : decode cX11_order 63 = .ok (.isub, 1) := by decide +kernel
theorem dX11_order_64 : decode cX11_order 64 = .ok (.iaload, 1) := by decide +kernel
theorem dX11_order_65 : decode cX11_order 65 = .ok (.goto 5, 3) := by decide +kernel
theorem dX11_order_68 : decode cX11_order 68 = .ok (.bipush (-2), 2) := by decide +kernel
theorem dX11_order_70 : decode cX11_order 70 = .ok (.ireturn, 1) := by decide +kernel
theorem dX11_seed_0 : decode cX11_seed 0 = .ok (.iload_n 1, 1) := by decide +kernel
theorem dX11_seed_1 : decode cX11_seed 1 = .ok (.ifCond .ge 5, 3) := by decide +kernel
theorem dX11_seed_4 : decode cX11_seed 4 = .ok (.iconst (-1), 1) := by decide +kernel
theorem dX11_seed_5 : decode cX11_seed 5 = .ok (.ireturn, 1) := by decide +kernel
theorem dX11_seed_6 : decode cX11_seed 6 = .ok (.aload_n 0, 1) := by decide +kernel
theorem dX11_seed_7 : decode cX11_seed 7 = .ok (.getfield 22, 3) := by decide +kernel
theorem dX11_seed_10 : decode cX11_seed 10 = .ok (.getfield 288, 3) := by decide +kernel
theorem dX11_seed_13 : decode cX11_seed 13 = .ok (.istore_n 2, 1) := by decide +kernel
theorem dX11_seed_14 : decode cX11_seed 14 = .ok (.aload_n 0, 1) := by decide +kernel
theorem dX11_seed_15 : decode cX11_seed 15 = .ok (.getfield 22, 3) := by decide +kernel
theorem dX11_seed_18 : decode cX11_seed 18 = .ok (.iload_n 1, 1) := by decide +kernel
theorem dX11_seed_19 : decode cX11_seed 19 = .ok (.putfield 288, 3) := by decide +kernel
theorem dX11_seed_22 : decode cX11_seed 22 = .ok (.iload_n 2, 1) := by decide +kernel
theorem dX11_seed_23 : decode cX11_seed 23 = .ok (.ireturn, 1) := by decide +kernel
set_option maxRecDepth 20000 in
theorem ggX11_lots_X11_ruleAt : GoodIn wsX11_lots wsX11_ruleAt := goodIn_r _ [9, 10, 11, 242, 243, 244, 245, 246, 247, 248, 249, 250, 251, 252, 253] (by decide +kernel) (by decide +kernel)
set_option maxRecDepth 20000 in
theorem gX11_lots_X11_ruleAt : GoodIn wsX11_lots (wsV RX11 162 RX11 yX11_ruleAt wsX11_ruleAt) := goodIn_app (goodIn_of _ (by decide +kernel)) ggX11_lots_X11_ruleAt
set_option maxRecDepth 20000 in
theorem ggX11_lots_X11_isPurse : GoodIn wsX11_lots wsX11_isPurse := goodIn_r _ [14] (by decide +kernel) (by decide +kernel)
set_option maxRecDepth 20000 in
theorem gX11_lots_X11_isPurse : GoodIn wsX11_lots (va_wsS RX11 195 yX11_isPurse wsX11_isPurse) := goodIn_app (goodIn_of _ (by decide +kernel)) ggX11_lots_X11_isPurse
set_option maxRecDepth 20000 in
theorem ggX11_lots_X11_hasCorner : GoodIn wsX11_lots wsX11_hasCorner := goodIn_r _ [18, 2, 19, 20, 242, 243, 244, 245, 246, 247, 248, 249, 250, 251, 252, 253, 254, 255, 256, 257, 258, 264, 265, 266, 267, 268, 269] (by decide +kernel) (by decide +kernel)
set_option maxRecDepth 20000 in
theorem gX11_lots_X11_hasCorner : GoodIn wsX11_lots (wsV RX11 180 RX11 yX11_hasCorner wsX11_hasCorner) := goodIn_app (goodIn_of _ (by decide +kernel)) ggX11_lots_X11_hasCorner
set_option maxRecDepth 20000 in
theorem ggX11_lots_X11_lotsByBestPlay : GoodIn wsX11_lots wsX11_lotsByBestPlay := goodIn_r _ [24, 2, 19, 20, 25, 1, 26, 27, 28, 29, 30, 31, 32, 8, 33, 34, 35, 36, 37, 38, 39, 40, 41, 42, 43, 44, 45, 46, 47, 48, 49, 50, 51, 52, 53, 54, 55, 56, 57, 58, 59, 60, 61, 62, 63, 64, 65, 66, 67, 68, 69, 70, 71, 72, 73, 74, 75, 76, 77, 78, 79, 80, 81, 82, 83, 84, 85, 86, 87, 88, 89, 90, 91, 92, 93, 94, 95, 96, 97, 98, 99, 100, 101, 102, 103, 104, 105, 106, 107, 108, 109, 110, 111, 112, 113, 114, 115, 116, 117, 118, 119, 120, 121, 122, 123, 124, 125, 126, 127, 128, 129, 130, 131, 132, 133, 134, 135, 136, 137, 138, 139, 140, 141, 142, 143, 144, 145, 146, 242, 243, 244, 245, 246, 247, 248, 249, 250, 251, 252, 253, 254, 255, 256, 257, 258, 264, 265, 266, 267, 268, 269, 259, 260, 261, 262, 263, 270, 271, 272, 273, 274, 275, 276, 277, 278, 279, 280] (by decide +kernel) (by decide +kernel)
set_option maxRecDepth 20000 in
theorem gX11_lots_X11_lotsByBestPlay : GoodIn wsX11_lots (wsV RX11 292 RX11 yX11_lotsByBestPlay wsX11_lotsByBestPlay) := goodIn_app (goodIn_of _ (by decide +kernel)) ggX11_lots_X11_lotsByBestPlay
set_option maxRecDepth 20000 in
theorem ggX11_lots_X11_lotsByRules : GoodIn wsX11_lots wsX11_lotsByRules := goodIn_r _ [150, 1, 2, 19, 20, 151, 152, 153, 27, 28, 29, 26, 154, 126, 127, 128, 129, 130, 131, 132, 133, 134, 135, 136, 137, 138, 139, 140, 141, 142, 143, 155, 156, 157, 158, 159, 160, 161, 162, 163, 164, 165, 166, 167, 168, 169, 170, 171, 172, 36, 37, 38, 39, 40, 41, 42, 43, 44, 45, 173, 174, 175, 176, 177, 178, 179, 180, 181, 182, 183, 184, 185, 96, 186, 93, 94, 95, 97, 98, 187, 188, 189, 190, 191, 192, 193, 194, 195, 196, 197, 198, 199, 200, 201, 202, 203, 204, 205, 206, 207, 208, 209, 210, 211, 212, 213, 214, 215, 216, 217, 218, 219, 220, 221, 222, 223, 224, 225, 226, 227, 228, 229, 230, 231, 232, 233, 234, 235, 236, 237, 238, 239, 240, 241, 242, 243, 244, 245, 246, 247, 248, 249, 250, 251, 252, 253, 254, 255, 256, 257, 258, 264, 265, 266, 267, 268, 269, 281, 282, 283, 284, 285, 286, 287, 288, 289, 290, 259, 260, 261, 262, 263, 291, 292, 293, 294, 295, 296] (by decide +kernel) (by decide +kernel)
set_option maxRecDepth 20000 in
theorem gX11_lots_X11_lotsByRules : GoodIn wsX11_lots (wsV RX11 296 RX11 yX11_lotsByRules wsX11_lotsByRules) := goodIn_app (goodIn_of _ (by decide +kernel)) ggX11_lots_X11_lotsByRules
theorem dX11_lots_0 : decode cX11_lots 0 = .ok (.iload_n 1, 1) := by decide +kernel
theorem dX11_lots_1 : decode cX11_lots 1 = .ok (.iconst (-1), 1) := by decide +kernel
theorem dX11_lots_2 : decode cX11_lots 2 = .ok (.if_icmp .ne 12, 3) := by decide +kernel
theorem dX11_lots_5 : decode cX11_lots 5 = .ok (.iload_n 2, 1) := by decide +kernel
theorem dX11_lots_6 : decode cX11_lots 6 = .ok (.iconst (-1), 1) := by decide +kernel
theorem dX11_lots_7 : decode cX11_lots 7 = .ok (.if_icmp .ne 7, 3) := by decide +kernel
theorem dX11_lots_10 : decode cX11_lots 10 = .ok (.iconst 1, 1) := by decide +kernel
theorem dX11_lots_11 : decode cX11_lots 11 = .ok (.goto 4, 3) := by decide +kernel
theorem dX11_lots_14 : decode cX11_lots 14 = .ok (.iconst 0, 1) := by decide +kernel
theorem dX11_lots_15 : decode cX11_lots 15 = .ok (.istore 6, 2) := by decide +kernel
theorem dX11_lots_17 : decode cX11_lots 17 = .ok (.iload 6, 2) := by decide +kernel
theorem dX11_lots_19 : decode cX11_lots 19 = .ok (.ifCond .ne 21, 3) := by decide +kernel
theorem dX11_lots_22 : decode cX11_lots 22 = .ok (.aload_n 0, 1) := by decide +kernel
theorem dX11_lots_23 : decode cX11_lots 23 = .ok (.iload_n 1, 1) := by decide +kernel
theorem dX11_lots_24 : decode cX11_lots 24 = .ok (.invokevirtual 162, 3) := by decide +kernel
theorem dX11_lots_27 : decode cX11_lots 27 = .ok (.ifnull 11, 3) := by decide +kernel
theorem dX11_lots_30 : decode cX11_lots 30 = .ok (.aload_n 0, 1) := by decide +kernel
theorem dX11_lots_31 : decode cX11_lots 31 = .ok (.iload_n 2, 1) := by decide +kernel
theorem dX11_lots_32 : decode cX11_lots 32 = .ok (.invokevirtual 162, 3) := by decide +kernel
theorem dX11_lots_35 : decode cX11_lots 35 = .ok (.ifnonnull 5, 3) := by decide +kernel
theorem dX11_lots_38 : decode cX11_lots 38 = .ok (.iconst (-1), 1) := by decide +kernel
theorem dX11_lots_39 : decode cX11_lots 39 = .ok (.ireturn, 1) := by decide +kernel
theorem dX11_lots_40 : decode cX11_lots 40 = .ok (.iload_n 3, 1) := by decide +kernel
theorem dX11_lots_41 : decode cX11_lots 41 = .ok (.iconst 1, 1) := by decide +kernel
theorem dX11_lots_42 : decode cX11_lots 42 = .ok (.if_icmp .lt 35, 3) := by decide +kernel
theorem dX11_lots_45 : decode cX11_lots 45 = .ok (.iload_n 3, 1) := by decide +kernel
theorem dX11_lots_46 : decode cX11_lots 46 = .ok (.bipush 50, 2) := by decide +kernel
theorem dX11_lots_48 : decode cX11_lots 48 = .ok (.if_icmp .gt 29, 3) := by decide +kernel
theorem dX11_lots_51 : decode cX11_lots 51 = .ok (.iload 4, 2) := by decide +kernel
theorem dX11_lots_53 : decode cX11_lots 53 = .ok (.invokestatic 195, 3) := by decide +kernel
theorem dX11_lots_56 : decode cX11_lots 56 = .ok (.ifCond .eq 21, 3) := by decide +kernel
theorem dX11_lots_59 : decode cX11_lots 59 = .ok (.iload 5, 2) := by decide +kernel
theorem dX11_lots_61 : decode cX11_lots 61 = .ok (.ifCond .lt 16, 3) := by decide +kernel
theorem dX11_lots_64 : decode cX11_lots 64 = .ok (.iload 5, 2) := by decide +kernel
theorem dX11_lots_66 : decode cX11_lots 66 = .ok (.iconst 2, 1) := by decide +kernel
theorem dX11_lots_67 : decode cX11_lots 67 = .ok (.if_icmp .gt 10, 3) := by decide +kernel
theorem dX11_lots_70 : decode cX11_lots 70 = .ok (.aload_n 0, 1) := by decide +kernel
theorem dX11_lots_71 : decode cX11_lots 71 = .ok (.invokevirtual 180, 3) := by decide +kernel
theorem dX11_lots_74 : decode cX11_lots 74 = .ok (.ifCond .ne 5, 3) := by decide +kernel
theorem dX11_lots_77 : decode cX11_lots 77 = .ok (.iconst (-1), 1) := by decide +kernel
theorem dX11_lots_78 : decode cX11_lots 78 = .ok (.ireturn, 1) := by decide +kernel
theorem dX11_lots_79 : decode cX11_lots 79 = .ok (.aload_n 0, 1) := by decide +kernel
theorem dX11_lots_80 : decode cX11_lots 80 = .ok (.getfield 61, 3) := by decide +kernel
theorem dX11_lots_83 : decode cX11_lots 83 = .ok (.aload_n 0, 1) := by decide +kernel
theorem dX11_lots_84 : decode cX11_lots 84 = .ok (.getfield 22, 3) := by decide +kernel
theorem dX11_lots_87 : decode cX11_lots 87 = .ok (.getfield 288, 3) := by decide +kernel
theorem dX11_lots_90 : decode cX11_lots 90 = .ok (.putfield 291, 3) := by decide +kernel
theorem dX11_lots_93 : decode cX11_lots 93 = .ok (.iload 6, 2) := by decide +kernel
theorem dX11_lots_95 : decode cX11_lots 95 = .ok (.ifCond .eq 23, 3) := by decide +kernel
theorem dX11_lots_98 : decode cX11_lots 98 = .ok (.iload 5, 2) := by decide +kernel
theorem dX11_lots_100 : decode cX11_lots 100 = .ok (.iconst 2, 1) := by decide +kernel
theorem dX11_lots_101 : decode cX11_lots 101 = .ok (.if_icmp .ne 7, 3) := by decide +kernel
theorem dX11_lots_104 : decode cX11_lots 104 = .ok (.iconst 0, 1) := by decide +kernel
theorem dX11_lots_105 : decode cX11_lots 105 = .ok (.goto 12, 3) := by decide +kernel
theorem dX11_lots_108 : decode cX11_lots 108 = .ok (.aload_n 0, 1) := by decide +kernel
theorem dX11_lots_109 : decode cX11_lots 109 = .ok (.iload_n 3, 1) := by decide +kernel
theorem dX11_lots_110 : decode cX11_lots 110 = .ok (.iload 4, 2) := by decide +kernel
theorem dX11_lots_112 : decode cX11_lots 112 = .ok (.iload 5, 2) := by decide +kernel
theorem dX11_lots_114 : decode cX11_lots 114 = .ok (.invokevirtual 292, 3) := by decide +kernel
theorem dX11_lots_117 : decode cX11_lots 117 = .ok (.ireturn, 1) := by decide +kernel
theorem dX11_lots_118 : decode cX11_lots 118 = .ok (.aload_n 0, 1) := by decide +kernel
theorem dX11_lots_119 : decode cX11_lots 119 = .ok (.aload_n 0, 1) := by decide +kernel
theorem dX11_lots_120 : decode cX11_lots 120 = .ok (.iload_n 1, 1) := by decide +kernel
theorem dX11_lots_121 : decode cX11_lots 121 = .ok (.invokevirtual 162, 3) := by decide +kernel
theorem dX11_lots_124 : decode cX11_lots 124 = .ok (.aload_n 0, 1) := by decide +kernel
theorem dX11_lots_125 : decode cX11_lots 125 = .ok (.iload_n 2, 1) := by decide +kernel
theorem dX11_lots_126 : decode cX11_lots 126 = .ok (.invokevirtual 162, 3) := by decide +kernel
theorem dX11_lots_129 : decode cX11_lots 129 = .ok (.iload_n 3, 1) := by decide +kernel
theorem dX11_lots_130 : decode cX11_lots 130 = .ok (.iload 4, 2) := by decide +kernel
theorem dX11_lots_132 : decode cX11_lots 132 = .ok (.iload 5, 2) := by decide +kernel
theorem dX11_lots_134 : decode cX11_lots 134 = .ok (.invokevirtual 296, 3) := by decide +kernel
theorem dX11_lots_137 : decode cX11_lots 137 = .ok (.ireturn, 1) := by decide +kernel
set_option maxRecDepth 20000 in
theorem ggX11_lotsByBestPlay_X11_startWinners : GoodIn wsX11_lotsByBestPlay wsX11_startWinners := goodIn_r _ [14, 1, 2, 15, 16, 17, 18, 19, 20, 21, 22, 23, 24, 25, 26, 27, 28, 29, 30, 31, 32, 33, 34, 35, 36, 37, 38, 39, 40, 41, 42, 43, 44, 45, 46, 47, 48, 49, 50, 51, 52, 53, 54, 55, 56, 57, 58, 59, 60, 61, 62, 63, 64, 65, 66, 67, 68, 69, 70, 71, 72, 73, 74, 75, 76, 77, 78, 79, 80, 81, 82, 83, 84, 85, 86, 87, 88, 89, 90, 91, 92, 93, 94, 95, 96, 97, 98, 99, 100, 101, 102, 103, 104, 105, 106, 128, 129, 130, 131, 132, 133, 134, 135, 136, 137, 138, 139, 140, 141, 142, 143, 144, 145, 146, 147, 148, 149, 150, 156, 157, 158, 159, 160, 161, 162, 163, 164, 165, 166] (by decide +kernel) (by decide +kernel)
set_option maxRecDepth 20000 in
theorem gX11_lotsByBestPlay_X11_startWinners : GoodIn wsX11_lotsByBestPlay (wsV RX11 240 RX11 yX11_startWinners wsX11_startWinners) := goodIn_app (goodIn_of _ (by decide +kernel)) ggX11_lotsByBestPlay_X11_startWinners
set_option maxRecDepth 20000 in
theorem ggX11_lotsByBestPlay_X3_draw : GoodIn wsX11_lotsByBestPlay wsX3_draw := goodIn_r _ [111, 112, 113, 114, 115, 116, 117, 118, 110, 119, 120, 121, 122, 123, 124, 151, 152, 153, 154, 155] (by decide +kernel) (by decide +kernel)
set_option maxRecDepth 20000 in
theorem gX11_lotsByBestPlay_X3_draw : GoodIn wsX11_lotsByBestPlay (wsV RX11 300 RX3 yX3_draw wsX3_draw) := goodIn_app (goodIn_of _ (by decide +kernel)) ggX11_lotsByBestPlay_X3_draw
set_option maxRecDepth 20000 in
theorem ggX11_lotsByBestPlay_X0_holds : GoodIn wsX11_lotsByBestPlay wsX0_holds := goodIn_r _ [127] (by decide +kernel) (by decide +kernel)
set_option maxRecDepth 20000 in
theorem gX11_lotsByBestPlay_X0_holds : GoodIn wsX11_lotsByBestPlay (va_wsS RX11 224 yX0_holds wsX0_holds) := goodIn_app (goodIn_of _ (by decide +kernel)) ggX11_lotsByBestPlay_X0_holds
theorem dX11_lotsByBestPlay_0 : decode cX11_lotsByBestPlay 0 = .ok (.iconst 0, 1) := by decide +kernel
theorem dX11_lotsByBestPlay_1 : decode cX11_lotsByBestPlay 1 = .ok (.istore 4, 2) := by decide +kernel
theorem dX11_lotsByBestPlay_3 : decode cX11_lotsByBestPlay 3 = .ok (.iload 4, 2) := by decide +kernel
theorem dX11_lotsByBestPlay_5 : decode cX11_lotsByBestPlay 5 = .ok (.aload_n 0, 1) := by decide +kernel
theorem dX11_lotsByBestPlay_6 : decode cX11_lotsByBestPlay 6 = .ok (.getfield 22, 3) := by decide +kernel
theorem dX11_lotsByBestPlay_9 : decode cX11_lotsByBestPlay 9 = .ok (.getfield 108, 3) := by decide +kernel
theorem dX11_lotsByBestPlay_12 : decode cX11_lotsByBestPlay 12 = .ok (.getfield 95, 3) := by decide +kernel
theorem dX11_lotsByBestPlay_15 : decode cX11_lotsByBestPlay 15 = .ok (.if_icmp .ge 31, 3) := by decide +kernel
theorem dX11_lotsByBestPlay_18 : decode cX11_lotsByBestPlay 18 = .ok (.iload 4, 2) := by decide +kernel
theorem dX11_lotsByBestPlay_20 : decode cX11_lotsByBestPlay 20 = .ok (.iconst 4, 1) := by decide +kernel
theorem dX11_lotsByBestPlay_21 : decode cX11_lotsByBestPlay 21 = .ok (.if_icmp .ge 25, 3) := by decide +kernel
theorem dX11_lotsByBestPlay_24 : decode cX11_lotsByBestPlay 24 = .ok (.aload_n 0, 1) := by decide +kernel
theorem dX11_lotsByBestPlay_25 : decode cX11_lotsByBestPlay 25 = .ok (.getfield 65, 3) := by decide +kernel
theorem dX11_lotsByBestPlay_28 : decode cX11_lotsByBestPlay 28 = .ok (.iload 4, 2) := by decide +kernel
theorem dX11_lotsByBestPlay_30 : decode cX11_lotsByBestPlay 30 = .ok (.aload_n 0, 1) := by decide +kernel
theorem dX11_lotsByBestPlay_31 : decode cX11_lotsByBestPlay 31 = .ok (.iload 4, 2) := by decide +kernel
theorem dX11_lotsByBestPlay_33 : decode cX11_lotsByBestPlay 33 = .ok (.iconst 2, 1) := by decide +kernel
theorem dX11_lotsByBestPlay_34 : decode cX11_lotsByBestPlay 34 = .ok (.iload_n 2, 1) := by decide +kernel
theorem dX11_lotsByBestPlay_35 : decode cX11_lotsByBestPlay 35 = .ok (.imul, 1) := by decide +kernel
theorem dX11_lotsByBestPlay_36 : decode cX11_lotsByBestPlay 36 = .ok (.invokevirtual 240, 3) := by decide +kernel
theorem dX11_lotsByBestPlay_39 : decode cX11_lotsByBestPlay 39 = .ok (.lastore, 1) := by decide +kernel
theorem dX11_lotsByBestPlay_40 : decode cX11_lotsByBestPlay 40 = .ok (.iinc 4 1, 3) := by decide +kernel
theorem dX11_lotsByBestPlay_43 : decode cX11_lotsByBestPlay 43 = .ok (.goto (-40), 3) := by decide +kernel
theorem dX11_lotsByBestPlay_46 : decode cX11_lotsByBestPlay 46 = .ok (.iconst 0, 1) := by decide +kernel
theorem dX11_lotsByBestPlay_47 : decode cX11_lotsByBestPlay 47 = .ok (.istore 4, 2) := by decide +kernel
theorem dX11_lotsByBestPlay_49 : decode cX11_lotsByBestPlay 49 = .ok (.iconst 0, 1) := by decide +kernel
theorem dX11_lotsByBestPlay_50 : decode cX11_lotsByBestPlay 50 = .ok (.istore 5, 2) := by decide +kernel
theorem dX11_lotsByBestPlay_52 : decode cX11_lotsByBestPlay 52 = .ok (.iload 5, 2) := by decide +kernel
theorem dX11_lotsByBestPlay_54 : decode cX11_lotsByBestPlay 54 = .ok (.iload_n 1, 1) := by decide +kernel
theorem dX11_lotsByBestPlay_55 : decode cX11_lotsByBestPlay 55 = .ok (.if_icmp .ge 149, 3) := by decide +kernel
theorem dX11_lotsByBestPlay_58 : decode cX11_lotsByBestPlay 58 = .ok (.aload_n 0, 1) := by decide +kernel
theorem dX11_lotsByBestPlay_59 : decode cX11_lotsByBestPlay 59 = .ok (.getfield 61, 3) := by decide +kernel
theorem dX11_lotsByBestPlay_62 : decode cX11_lotsByBestPlay 62 = .ok (.aload_n 0, 1) := by decide +kernel
theorem dX11_lotsByBestPlay_63 : decode cX11_lotsByBestPlay 63 = .ok (.getfield 22, 3) := by decide +kernel
theorem dX11_lotsByBestPlay_66 : decode cX11_lotsByBestPlay 66 = .ok (.getfield 108, 3) := by decide +kernel
theorem dX11_lotsByBestPlay_69 : decode cX11_lotsByBestPlay 69 = .ok (.getfield 95, 3) := by decide +kernel
theorem dX11_lotsByBestPlay_72 : decode cX11_lotsByBestPlay 72 = .ok (.iload_n 2, 1) := by decide +kernel
theorem dX11_lotsByBestPlay_73 : decode cX11_lotsByBestPlay 73 = .ok (.invokevirtual 300, 3) := by decide +kernel
theorem dX11_lotsByBestPlay_76 : decode cX11_lotsByBestPlay 76 = .ok (.aload_n 0, 1) := by decide +kernel
theorem dX11_lotsByBestPlay_77 : decode cX11_lotsByBestPlay 77 = .ok (.getfield 61, 3) := by decide +kernel
theorem dX11_lotsByBestPlay_80 : decode cX11_lotsByBestPlay 80 = .ok (.getfield 304, 3) := by decide +kernel
theorem dX11_lotsByBestPlay_83 : decode cX11_lotsByBestPlay 83 = .ok (.ifCond .ne 13, 3) := by decide +kernel
theorem dX11_lotsByBestPlay_86 : decode cX11_lotsByBestPlay 86 = .ok (.aload_n 0, 1) := by decide +kernel
theorem dX11_lotsByBestPlay_87 : decode cX11_lotsByBestPlay 87 = .ok (.getfield 61, 3) := by decide +kernel
theorem dX11_lotsByBestPlay_90 : decode cX11_lotsByBestPlay 90 = .ok (.getfield 307, 3) := by decide +kernel
theorem dX11_lotsByBestPlay_93 : decode cX11_lotsByBestPlay 93 = .ok (.goto 10, 3) := by decide +kernel
theorem dX11_lotsByBestPlay_96 : decode cX11_lotsByBestPlay 96 = .ok (.aload_n 0, 1) := by decide +kernel
theorem dX11_lotsByBestPlay_97 : decode cX11_lotsByBestPlay 97 = .ok (.getfield 61, 3) := by decide +kernel
theorem dX11_lotsByBestPlay_100 : decode cX11_lotsByBestPlay 100 = .ok (.getfield 310, 3) := by decide +kernel
theorem dX11_lotsByBestPlay_103 : decode cX11_lotsByBestPlay 103 = .ok (.istore 6, 2) := by decide +kernel
theorem dX11_lotsByBestPlay_105 : decode cX11_lotsByBestPlay 105 = .ok (.aload_n 0, 1) := by decide +kernel
theorem dX11_lotsByBestPlay_106 : decode cX11_lotsByBestPlay 106 = .ok (.getfield 61, 3) := by decide +kernel
theorem dX11_lotsByBestPlay_109 : decode cX11_lotsByBestPlay 109 = .ok (.getfield 304, 3) := by decide +kernel
theorem dX11_lotsByBestPlay_112 : decode cX11_lotsByBestPlay 112 = .ok (.ifCond .ne 13, 3) := by decide +kernel
theorem dX11_lotsByBestPlay_115 : decode cX11_lotsByBestPlay 115 = .ok (.aload_n 0, 1) := by decide +kernel
theorem dX11_lotsByBestPlay_116 : decode cX11_lotsByBestPlay 116 = .ok (.getfield 61, 3) := by decide +kernel
theorem dX11_lotsByBestPlay_119 : decode cX11_lotsByBestPlay 119 = .ok (.getfield 310, 3) := by decide +kernel
theorem dX11_lotsByBestPlay_122 : decode cX11_lotsByBestPlay 122 = .ok (.goto 10, 3) := by decide +kernel
theorem dX11_lotsByBestPlay_125 : decode cX11_lotsByBestPlay 125 = .ok (.aload_n 0, 1) := by decide +kernel
theorem dX11_lotsByBestPlay_126 : decode cX11_lotsByBestPlay 126 = .ok (.getfield 61, 3) := by decide +kernel
theorem dX11_lotsByBestPlay_129 : decode cX11_lotsByBestPlay 129 = .ok (.getfield 307, 3) := by decide +kernel
theorem dX11_lotsByBestPlay_132 : decode cX11_lotsByBestPlay 132 = .ok (.istore 7, 2) := by decide +kernel
theorem dX11_lotsByBestPlay_134 : decode cX11_lotsByBestPlay 134 = .ok (.aload_n 0, 1) := by decide +kernel
theorem dX11_lotsByBestPlay_135 : decode cX11_lotsByBestPlay 135 = .ok (.getfield 61, 3) := by decide +kernel
theorem dX11_lotsByBestPlay_138 : decode cX11_lotsByBestPlay 138 = .ok (.getfield 313, 3) := by decide +kernel
theorem dX11_lotsByBestPlay_141 : decode cX11_lotsByBestPlay 141 = .ok (.iconst 4, 1) := by decide +kernel
theorem dX11_lotsByBestPlay_142 : decode cX11_lotsByBestPlay 142 = .ok (.if_icmp .ge 29, 3) := by decide +kernel
theorem dX11_lotsByBestPlay_145 : decode cX11_lotsByBestPlay 145 = .ok (.aload_n 0, 1) := by decide +kernel
theorem dX11_lotsByBestPlay_146 : decode cX11_lotsByBestPlay 146 = .ok (.getfield 65, 3) := by decide +kernel
theorem dX11_lotsByBestPlay_149 : decode cX11_lotsByBestPlay 149 = .ok (.aload_n 0, 1) := by decide +kernel
theorem dX11_lotsByBestPlay_150 : decode cX11_lotsByBestPlay 150 = .ok (.getfield 61, 3) := by decide +kernel
theorem dX11_lotsByBestPlay_153 : decode cX11_lotsByBestPlay 153 = .ok (.getfield 313, 3) := by decide +kernel
theorem dX11_lotsByBestPlay_156 : decode cX11_lotsByBestPlay 156 = .ok (.laload, 1) := by decide +kernel
theorem dX11_lotsByBestPlay_157 : decode cX11_lotsByBestPlay 157 = .ok (.iload 6, 2) := by decide +kernel
theorem dX11_lotsByBestPlay_159 : decode cX11_lotsByBestPlay 159 = .ok (.iload 7, 2) := by decide +kernel
theorem dX11_lotsByBestPlay_161 : decode cX11_lotsByBestPlay 161 = .ok (.invokestatic 224, 3) := by decide +kernel
theorem dX11_lotsByBestPlay_164 : decode cX11_lotsByBestPlay 164 = .ok (.ifCond .eq 7, 3) := by decide +kernel
theorem dX11_lotsByBestPlay_167 : decode cX11_lotsByBestPlay 167 = .ok (.iconst 1, 1) := by decide +kernel
theorem dX11_lotsByBestPlay_168 : decode cX11_lotsByBestPlay 168 = .ok (.goto 4, 3) := by decide +kernel
theorem dX11_lotsByBestPlay_171 : decode cX11_lotsByBestPlay 171 = .ok (.iconst 0, 1) := by decide +kernel
theorem dX11_lotsByBestPlay_172 : decode cX11_lotsByBestPlay 172 = .ok (.istore 8, 2) := by decide +kernel
theorem dX11_lotsByBestPlay_174 : decode cX11_lotsByBestPlay 174 = .ok (.iload 8, 2) := by decide +kernel
theorem dX11_lotsByBestPlay_176 : decode cX11_lotsByBestPlay 176 = .ok (.aload_n 0, 1) := by decide +kernel
theorem dX11_lotsByBestPlay_177 : decode cX11_lotsByBestPlay 177 = .ok (.getfield 61, 3) := by decide +kernel
theorem dX11_lotsByBestPlay_180 : decode cX11_lotsByBestPlay 180 = .ok (.getfield 304, 3) := by decide +kernel
theorem dX11_lotsByBestPlay_183 : decode cX11_lotsByBestPlay 183 = .ok (.iload_n 3, 1) := by decide +kernel
theorem dX11_lotsByBestPlay_184 : decode cX11_lotsByBestPlay 184 = .ok (.if_icmp .ne 7, 3) := by decide +kernel
theorem dX11_lotsByBestPlay_187 : decode cX11_lotsByBestPlay 187 = .ok (.iconst 1, 1) := by decide +kernel
theorem dX11_lotsByBestPlay_188 : decode cX11_lotsByBestPlay 188 = .ok (.goto 4, 3) := by decide +kernel
theorem dX11_lotsByBestPlay_191 : decode cX11_lotsByBestPlay 191 = .ok (.iconst 0, 1) := by decide +kernel
theorem dX11_lotsByBestPlay_192 : decode cX11_lotsByBestPlay 192 = .ok (.if_icmp .ne 6, 3) := by decide +kernel
theorem dX11_lotsByBestPlay_195 : decode cX11_lotsByBestPlay 195 = .ok (.iinc 4 1, 3) := by decide +kernel
theorem dX11_lotsByBestPlay_198 : decode cX11_lotsByBestPlay 198 = .ok (.iinc 5 1, 3) := by decide +kernel
theorem dX11_lotsByBestPlay_201 : decode cX11_lotsByBestPlay 201 = .ok (.goto (-149), 3) := by decide +kernel
theorem dX11_lotsByBestPlay_204 : decode cX11_lotsByBestPlay 204 = .ok (.iload 4, 2) := by decide +kernel
theorem dX11_lotsByBestPlay_206 : decode cX11_lotsByBestPlay 206 = .ok (.ireturn, 1) := by decide +kernel
set_option maxRecDepth 20000 in
theorem ggX11_lotsByRules_X3_draw : GoodIn wsX11_lotsByRules wsX3_draw := goodIn_r _ [17, 18, 19, 20, 21, 22, 23, 24, 16, 25, 26, 27, 28, 29, 30, 167, 168, 169, 170, 171] (by decide +kernel) (by decide +kernel)
set_option maxRecDepth 20000 in
theorem gX11_lotsByRules_X3_draw : GoodIn wsX11_lotsByRules (wsV RX11 300 RX3 yX3_draw wsX3_draw) := goodIn_app (goodIn_of _ (by decide +kernel)) ggX11_lotsByRules_X3_draw
set_option maxRecDepth 20000 in
theorem ggX11_lotsByRules_X6_start : GoodIn wsX11_lotsByRules wsX6_start := goodIn_r _ [35, 36, 37, 38, 39, 40, 41, 42, 34, 43, 44, 45, 46, 47, 48, 49, 50, 51, 52, 53, 54, 55, 56, 57, 58, 59, 60, 61, 62, 63, 64, 65, 66, 67, 68, 69, 70, 71, 72, 73, 74, 75, 76, 77, 78, 79, 80, 81, 82, 157, 158, 159, 160, 161, 162, 163, 164, 165, 166, 151, 152, 153, 154, 155, 156] (by decide +kernel) (by decide +kernel)
set_option maxRecDepth 20000 in
theorem gX11_lotsByRules_X6_start : GoodIn wsX11_lotsByRules (wsV RX11 121 RX6 yX6_start wsX6_start) := goodIn_app (goodIn_of _ (by decide +kernel)) ggX11_lotsByRules_X6_start
set_option maxRecDepth 20000 in
theorem ggX11_lotsByRules_X6_goByRules : GoodIn wsX11_lotsByRules wsX6_goByRules := goodIn_r _ [86, 36, 39, 87, 88, 89, 90, 91, 92, 93, 94, 95, 96, 97, 98, 64, 65, 34, 66, 67, 38, 37, 99, 100, 101, 102, 46, 103, 74, 75, 51, 76, 72, 77, 78, 104, 105, 106, 107, 108, 109, 110, 111, 112, 113, 114, 47, 44, 115, 116, 117, 118, 119, 120, 121, 122, 123, 124, 79, 80, 81, 82, 45, 125, 126, 127, 128, 129, 59, 60, 61, 62, 63, 68, 69, 70, 71, 73, 130, 131, 132, 133, 157, 158, 159, 160, 161, 162, 163, 164, 165, 166, 172, 173, 174, 175, 176, 177, 151, 152, 153, 154, 155, 156] (by decide +kernel) (by decide +kernel)
set_option maxRecDepth 20000 in
theorem gX11_lotsByRules_X6_goByRules : GoodIn wsX11_lotsByRules (wsV RX11 166 RX6 yX6_goByRules wsX6_goByRules) := goodIn_app (goodIn_of _ (by decide +kernel)) ggX11_lotsByRules_X6_goByRules
theorem dX11_lotsByRules_0 : decode cX11_lotsByRules 0 = .ok (.iconst 0, 1) := by decide +kernel
theorem dX11_lotsByRules_1 : decode cX11_lotsByRules 1 = .ok (.istore 6, 2) := by decide +kernel
theorem dX11_lotsByRules_3 : decode cX11_lotsByRules 3 = .ok (.iconst 0, 1) := by decide +kernel
theorem dX11_lotsByRules_4 : decode cX11_lotsByRules 4 = .ok (.istore 7, 2) := by decide +kernel
theorem dX11_lotsByRules_6 : decode cX11_lotsByRules 6 = .ok (.iload 7, 2) := by decide +kernel
theorem dX11_lotsByRules_8 : decode cX11_lotsByRules 8 = .ok (.iload_n 3, 1) := by decide +kernel
theorem dX11_lotsByRules_9 : decode cX11_lotsByRules 9 = .ok (.if_icmp .ge 148, 3) := by decide +kernel
theorem dX11_lotsByRules_12 : decode cX11_lotsByRules 12 = .ok (.aload_n 0, 1) := by decide +kernel
theorem dX11_lotsByRules_13 : decode cX11_lotsByRules 13 = .ok (.getfield 61, 3) := by decide +kernel
theorem dX11_lotsByRules_16 : decode cX11_lotsByRules 16 = .ok (.aload_n 0, 1) := by decide +kernel
theorem dX11_lotsByRules_17 : decode cX11_lotsByRules 17 = .ok (.getfield 22, 3) := by decide +kernel
theorem dX11_lotsByRules_20 : decode cX11_lotsByRules 20 = .ok (.getfield 108, 3) := by decide +kernel
theorem dX11_lotsByRules_23 : decode cX11_lotsByRules 23 = .ok (.getfield 95, 3) := by decide +kernel
theorem dX11_lotsByRules_26 : decode cX11_lotsByRules 26 = .ok (.iload 4, 2) := by decide +kernel
theorem dX11_lotsByRules_28 : decode cX11_lotsByRules 28 = .ok (.invokevirtual 300, 3) := by decide +kernel
theorem dX11_lotsByRules_31 : decode cX11_lotsByRules 31 = .ok (.aload_n 0, 1) := by decide +kernel
theorem dX11_lotsByRules_32 : decode cX11_lotsByRules 32 = .ok (.getfield 40, 3) := by decide +kernel
theorem dX11_lotsByRules_35 : decode cX11_lotsByRules 35 = .ok (.iconst 0, 1) := by decide +kernel
theorem dX11_lotsByRules_36 : decode cX11_lotsByRules 36 = .ok (.putfield 177, 3) := by decide +kernel
theorem dX11_lotsByRules_39 : decode cX11_lotsByRules 39 = .ok (.aload_n 0, 1) := by decide +kernel
theorem dX11_lotsByRules_40 : decode cX11_lotsByRules 40 = .ok (.getfield 40, 3) := by decide +kernel
theorem dX11_lotsByRules_43 : decode cX11_lotsByRules 43 = .ok (.getfield 183, 3) := by decide +kernel
theorem dX11_lotsByRules_46 : decode cX11_lotsByRules 46 = .ok (.iconst 0, 1) := by decide +kernel
theorem dX11_lotsByRules_47 : decode cX11_lotsByRules 47 = .ok (.aload_n 0, 1) := by decide +kernel
theorem dX11_lotsByRules_48 : decode cX11_lotsByRules 48 = .ok (.getfield 61, 3) := by decide +kernel
theorem dX11_lotsByRules_51 : decode cX11_lotsByRules 51 = .ok (.getfield 307, 3) := by decide +kernel
theorem dX11_lotsByRules_54 : decode cX11_lotsByRules 54 = .ok (.iastore, 1) := by decide +kernel
theorem dX11_lotsByRules_55 : decode cX11_lotsByRules 55 = .ok (.aload_n 0, 1) := by decide +kernel
theorem dX11_lotsByRules_56 : decode cX11_lotsByRules 56 = .ok (.getfield 40, 3) := by decide +kernel
theorem dX11_lotsByRules_59 : decode cX11_lotsByRules 59 = .ok (.getfield 183, 3) := by decide +kernel
theorem dX11_lotsByRules_62 : decode cX11_lotsByRules 62 = .ok (.iconst 1, 1) := by decide +kernel
theorem dX11_lotsByRules_63 : decode cX11_lotsByRules 63 = .ok (.aload_n 0, 1) := by decide +kernel
theorem dX11_lotsByRules_64 : decode cX11_lotsByRules 64 = .ok (.getfield 61, 3) := by decide +kernel
theorem dX11_lotsByRules_67 : decode cX11_lotsByRules 67 = .ok (.getfield 310, 3) := by decide +kernel
theorem dX11_lotsByRules_70 : decode cX11_lotsByRules 70 = .ok (.iastore, 1) := by decide +kernel
theorem dX11_lotsByRules_71 : decode cX11_lotsByRules 71 = .ok (.aload_n 0, 1) := by decide +kernel
theorem dX11_lotsByRules_72 : decode cX11_lotsByRules 72 = .ok (.getfield 40, 3) := by decide +kernel
theorem dX11_lotsByRules_75 : decode cX11_lotsByRules 75 = .ok (.aload_n 0, 1) := by decide +kernel
theorem dX11_lotsByRules_76 : decode cX11_lotsByRules 76 = .ok (.getfield 22, 3) := by decide +kernel
theorem dX11_lotsByRules_79 : decode cX11_lotsByRules 79 = .ok (.getfield 108, 3) := by decide +kernel
theorem dX11_lotsByRules_82 : decode cX11_lotsByRules 82 = .ok (.aload_n 0, 1) := by decide +kernel
theorem dX11_lotsByRules_83 : decode cX11_lotsByRules 83 = .ok (.getfield 61, 3) := by decide +kernel
theorem dX11_lotsByRules_86 : decode cX11_lotsByRules 86 = .ok (.getfield 313, 3) := by decide +kernel
theorem dX11_lotsByRules_89 : decode cX11_lotsByRules 89 = .ok (.aload_n 0, 1) := by decide +kernel
theorem dX11_lotsByRules_90 : decode cX11_lotsByRules 90 = .ok (.getfield 61, 3) := by decide +kernel
theorem dX11_lotsByRules_93 : decode cX11_lotsByRules 93 = .ok (.getfield 304, 3) := by decide +kernel
theorem dX11_lotsByRules_96 : decode cX11_lotsByRules 96 = .ok (.invokevirtual 121, 3) := by decide +kernel
theorem dX11_lotsByRules_99 : decode cX11_lotsByRules 99 = .ok (.aload_n 0, 1) := by decide +kernel
theorem dX11_lotsByRules_100 : decode cX11_lotsByRules 100 = .ok (.getfield 40, 3) := by decide +kernel
theorem dX11_lotsByRules_103 : decode cX11_lotsByRules 103 = .ok (.aload_n 0, 1) := by decide +kernel
theorem dX11_lotsByRules_104 : decode cX11_lotsByRules 104 = .ok (.getfield 22, 3) := by decide +kernel
theorem dX11_lotsByRules_107 : decode cX11_lotsByRules 107 = .ok (.getfield 108, 3) := by decide +kernel
theorem dX11_lotsByRules_110 : decode cX11_lotsByRules 110 = .ok (.aload_n 1, 1) := by decide +kernel
theorem dX11_lotsByRules_111 : decode cX11_lotsByRules 111 = .ok (.aload_n 2, 1) := by decide +kernel
theorem dX11_lotsByRules_112 : decode cX11_lotsByRules 112 = .ok (.invokevirtual 166, 3) := by decide +kernel
theorem dX11_lotsByRules_115 : decode cX11_lotsByRules 115 = .ok (.iload 5, 2) := by decide +kernel
theorem dX11_lotsByRules_117 : decode cX11_lotsByRules 117 = .ok (.iconst 2, 1) := by decide +kernel
theorem dX11_lotsByRules_118 : decode cX11_lotsByRules 118 = .ok (.if_icmp .ne 18, 3) := by decide +kernel
theorem dX11_lotsByRules_121 : decode cX11_lotsByRules 121 = .ok (.iload 6, 2) := by decide +kernel
theorem dX11_lotsByRules_123 : decode cX11_lotsByRules 123 = .ok (.aload_n 0, 1) := by decide +kernel
theorem dX11_lotsByRules_124 : decode cX11_lotsByRules 124 = .ok (.getfield 40, 3) := by decide +kernel
theorem dX11_lotsByRules_127 : decode cX11_lotsByRules 127 = .ok (.getfield 177, 3) := by decide +kernel
theorem dX11_lotsByRules_130 : decode cX11_lotsByRules 130 = .ok (.iadd, 1) := by decide +kernel
theorem dX11_lotsByRules_131 : decode cX11_lotsByRules 131 = .ok (.istore 6, 2) := by decide +kernel
theorem dX11_lotsByRules_133 : decode cX11_lotsByRules 133 = .ok (.goto 18, 3) := by decide +kernel
theorem dX11_lotsByRules_136 : decode cX11_lotsByRules 136 = .ok (.aload_n 0, 1) := by decide +kernel
theorem dX11_lotsByRules_137 : decode cX11_lotsByRules 137 = .ok (.getfield 40, 3) := by decide +kernel
theorem dX11_lotsByRules_140 : decode cX11_lotsByRules 140 = .ok (.getfield 156, 3) := by decide +kernel
theorem dX11_lotsByRules_143 : decode cX11_lotsByRules 143 = .ok (.iload 5, 2) := by decide +kernel
theorem dX11_lotsByRules_145 : decode cX11_lotsByRules 145 = .ok (.if_icmp .ne 6, 3) := by decide +kernel
theorem dX11_lotsByRules_148 : decode cX11_lotsByRules 148 = .ok (.iinc 6 1, 3) := by decide +kernel
theorem dX11_lotsByRules_151 : decode cX11_lotsByRules 151 = .ok (.iinc 7 1, 3) := by decide +kernel
theorem dX11_lotsByRules_154 : decode cX11_lotsByRules 154 = .ok (.goto (-148), 3) := by decide +kernel
theorem dX11_lotsByRules_157 : decode cX11_lotsByRules 157 = .ok (.iload 6, 2) := by decide +kernel
theorem dX11_lotsByRules_159 : decode cX11_lotsByRules 159 = .ok (.ireturn, 1) := by decide +kernel
set_option maxRecDepth 20000 in
theorem ggX11_count_X10_allWon : GoodIn wsX11_count wsX10_allWon := goodIn_r _ [21, 22, 35, 36, 37, 38, 39] (by decide +kernel) (by decide +kernel)
set_option maxRecDepth 20000 in
theorem gX11_count_X10_allWon : GoodIn wsX11_count (wsV RX11 319 RX10 yX10_allWon wsX10_allWon) := goodIn_app (goodIn_of _ (by decide +kernel)) ggX11_count_X10_allWon
theorem dX11_count_0 : decode cX11_count 0 = .ok (.aload_n 0, 1) := by decide +kernel
theorem dX11_count_1 : decode cX11_count 1 = .ok (.getfield 22, 3) := by decide +kernel
theorem dX11_count_4 : decode cX11_count 4 = .ok (.getfield 118, 3) := by decide +kernel
theorem dX11_count_7 : decode cX11_count 7 = .ok (.astore_n 2, 1) := by decide +kernel
theorem dX11_count_8 : decode cX11_count 8 = .ok (.iload_n 1, 1) := by decide +kernel
theorem dX11_count_9 : decode cX11_count 9 = .ok (.tableswitch 191 0 11 #[63, 74, 85, 90, 106, 122, 138, 143, 159, 167, 178, 186], 63) := by decide +kernel
theorem dX11_count_72 : decode cX11_count 72 = .ok (.aload_n 0, 1) := by decide +kernel
theorem dX11_count_73 : decode cX11_count 73 = .ok (.getfield 22, 3) := by decide +kernel
theorem dX11_count_76 : decode cX11_count 76 = .ok (.getfield 108, 3) := by decide +kernel
theorem dX11_count_79 : decode cX11_count 79 = .ok (.getfield 95, 3) := by decide +kernel
theorem dX11_count_82 : decode cX11_count 82 = .ok (.ireturn, 1) := by decide +kernel
theorem dX11_count_83 : decode cX11_count 83 = .ok (.aload_n 0, 1) := by decide +kernel
theorem dX11_count_84 : decode cX11_count 84 = .ok (.getfield 22, 3) := by decide +kernel
theorem dX11_count_87 : decode cX11_count 87 = .ok (.getfield 108, 3) := by decide +kernel
theorem dX11_count_90 : decode cX11_count 90 = .ok (.getfield 316, 3) := by decide +kernel
theorem dX11_count_93 : decode cX11_count 93 = .ok (.ireturn, 1) := by decide +kernel
theorem dX11_count_94 : decode cX11_count 94 = .ok (.aload_n 0, 1) := by decide +kernel
theorem dX11_count_95 : decode cX11_count 95 = .ok (.getfield 98, 3) := by decide +kernel
theorem dX11_count_98 : decode cX11_count 98 = .ok (.ireturn, 1) := by decide +kernel
theorem dX11_count_99 : decode cX11_count 99 = .ok (.aload_n 2, 1) := by decide +kernel
theorem dX11_count_100 : decode cX11_count 100 = .ok (.getfield 149, 3) := by decide +kernel
theorem dX11_count_103 : decode cX11_count 103 = .ok (.ifCond .eq 10, 3) := by decide +kernel
theorem dX11_count_106 : decode cX11_count 106 = .ok (.aload_n 2, 1) := by decide +kernel
theorem dX11_count_107 : decode cX11_count 107 = .ok (.getfield 128, 3) := by decide +kernel
theorem dX11_count_110 : decode cX11_count 110 = .ok (.goto 4, 3) := by decide +kernel
theorem dX11_count_113 : decode cX11_count 113 = .ok (.iconst 0, 1) := by decide +kernel
theorem dX11_count_114 : decode cX11_count 114 = .ok (.ireturn, 1) := by decide +kernel
theorem dX11_count_115 : decode cX11_count 115 = .ok (.aload_n 2, 1) := by decide +kernel
theorem dX11_count_116 : decode cX11_count 116 = .ok (.getfield 149, 3) := by decide +kernel
theorem dX11_count_119 : decode cX11_count 119 = .ok (.ifCond .eq 10, 3) := by decide +kernel
theorem dX11_count_122 : decode cX11_count 122 = .ok (.aload_n 2, 1) := by decide +kernel
theorem dX11_count_123 : decode cX11_count 123 = .ok (.getfield 208, 3) := by decide +kernel
theorem dX11_count_126 : decode cX11_count 126 = .ok (.goto 4, 3) := by decide +kernel
theorem dX11_count_129 : decode cX11_count 129 = .ok (.iconst (-1), 1) := by decide +kernel
theorem dX11_count_130 : decode cX11_count 130 = .ok (.ireturn, 1) := by decide +kernel
theorem dX11_count_131 : decode cX11_count 131 = .ok (.aload_n 2, 1) := by decide +kernel
theorem dX11_count_132 : decode cX11_count 132 = .ok (.getfield 149, 3) := by decide +kernel
theorem dX11_count_135 : decode cX11_count 135 = .ok (.ifCond .eq 10, 3) := by decide +kernel
theorem dX11_count_138 : decode cX11_count 138 = .ok (.aload_n 2, 1) := by decide +kernel
theorem dX11_count_139 : decode cX11_count 139 = .ok (.getfield 201, 3) := by decide +kernel
theorem dX11_count_142 : decode cX11_count 142 = .ok (.goto 4, 3) := by decide +kernel
theorem dX11_count_145 : decode cX11_count 145 = .ok (.iconst 0, 1) := by decide +kernel
theorem dX11_count_146 : decode cX11_count 146 = .ok (.ireturn, 1) := by decide +kernel
theorem dX11_count_147 : decode cX11_count 147 = .ok (.aload_n 2, 1) := by decide +kernel
theorem dX11_count_148 : decode cX11_count 148 = .ok (.getfield 177, 3) := by decide +kernel
theorem dX11_count_151 : decode cX11_count 151 = .ok (.ireturn, 1) := by decide +kernel
theorem dX11_count_152 : decode cX11_count 152 = .ok (.aload_n 2, 1) := by decide +kernel
theorem dX11_count_153 : decode cX11_count 153 = .ok (.getfield 149, 3) := by decide +kernel
theorem dX11_count_156 : decode cX11_count 156 = .ok (.ifCond .eq 10, 3) := by decide +kernel
theorem dX11_count_159 : decode cX11_count 159 = .ok (.aload_n 2, 1) := by decide +kernel
theorem dX11_count_160 : decode cX11_count 160 = .ok (.getfield 174, 3) := by decide +kernel
theorem dX11_count_163 : decode cX11_count 163 = .ok (.goto 4, 3) := by decide +kernel
theorem dX11_count_166 : decode cX11_count 166 = .ok (.iconst 0, 1) := by decide +kernel
theorem dX11_count_167 : decode cX11_count 167 = .ok (.ireturn, 1) := by decide +kernel
theorem dX11_count_168 : decode cX11_count 168 = .ok (.aload_n 0, 1) := by decide +kernel
theorem dX11_count_169 : decode cX11_count 169 = .ok (.getfield 22, 3) := by decide +kernel
theorem dX11_count_172 : decode cX11_count 172 = .ok (.invokevirtual 319, 3) := by decide +kernel
theorem dX11_count_175 : decode cX11_count 175 = .ok (.ireturn, 1) := by decide +kernel
theorem dX11_count_176 : decode cX11_count 176 = .ok (.aload_n 0, 1) := by decide +kernel
theorem dX11_count_177 : decode cX11_count 177 = .ok (.getfield 22, 3) := by decide +kernel
theorem dX11_count_180 : decode cX11_count 180 = .ok (.getfield 267, 3) := by decide +kernel
theorem dX11_count_183 : decode cX11_count 183 = .ok (.getfield 271, 3) := by decide +kernel
theorem dX11_count_186 : decode cX11_count 186 = .ok (.ireturn, 1) := by decide +kernel
theorem dX11_count_187 : decode cX11_count 187 = .ok (.aload_n 0, 1) := by decide +kernel
theorem dX11_count_188 : decode cX11_count 188 = .ok (.getfield 22, 3) := by decide +kernel
theorem dX11_count_191 : decode cX11_count 191 = .ok (.getfield 288, 3) := by decide +kernel
theorem dX11_count_194 : decode cX11_count 194 = .ok (.ireturn, 1) := by decide +kernel
theorem dX11_count_195 : decode cX11_count 195 = .ok (.aload_n 0, 1) := by decide +kernel
theorem dX11_count_196 : decode cX11_count 196 = .ok (.getfield 69, 3) := by decide +kernel
theorem dX11_count_199 : decode cX11_count 199 = .ok (.ireturn, 1) := by decide +kernel
theorem dX11_count_200 : decode cX11_count 200 = .ok (.iconst (-1), 1) := by decide +kernel
theorem dX11_count_201 : decode cX11_count 201 = .ok (.ireturn, 1) := by decide +kernel
set_option maxRecDepth 20000 in
theorem ggX11_image_X10_init : GoodIn wsX11_image wsX10_init := goodIn_r _ [7, 8, 9, 10, 11, 12, 13, 14, 15, 16, 17, 18, 19, 20, 21, 22, 23, 24, 25, 26, 27, 28, 29, 30, 31, 32, 33, 34, 35, 36, 37, 38, 39, 40, 41, 42, 43, 44, 98, 99, 100, 101, 102, 103, 93, 94, 95, 96, 97, 104, 105, 106, 107, 108, 109, 110, 111, 112, 113, 114, 115, 116, 117] (by decide +kernel) (by decide +kernel)
set_option maxRecDepth 20000 in
theorem gX11_image_X10_init_n21 : GoodIn wsX11_image (wsX10_init) := ggX11_image_X10_init
set_option maxRecDepth 20000 in
theorem ggX11_image_X10_copyFrom : GoodIn wsX11_image wsX10_copyFrom := goodIn_r _ [48, 14, 18, 22, 24, 49, 50, 51, 52, 13, 53, 54, 55, 56, 28, 57, 58, 59, 60, 29, 30, 61, 62, 63, 17, 64, 65, 34, 66, 67, 68, 69, 35, 36, 70, 37, 38, 71, 72, 73, 21, 74, 75, 42, 76, 43, 93, 94, 95, 96, 97, 98, 99, 100, 101, 102, 103, 104, 105, 106, 107, 108, 109, 110, 111, 112, 113, 114, 115, 116, 117] (by decide +kernel) (by decide +kernel)
set_option maxRecDepth 20000 in
theorem gX11_image_X10_copyFrom : GoodIn wsX11_image (wsV RX11 322 RX10 yX10_copyFrom wsX10_copyFrom) := goodIn_app (goodIn_of _ (by decide +kernel)) ggX11_image_X10_copyFrom
set_option maxRecDepth 20000 in
theorem ggX11_image_X10_allWon : GoodIn wsX11_image wsX10_allWon := goodIn_r _ [80, 24, 93, 94, 95, 96, 97] (by decide +kernel) (by decide +kernel)
set_option maxRecDepth 20000 in
theorem gX11_image_X10_allWon : GoodIn wsX11_image (wsV RX11 319 RX10 yX10_allWon wsX10_allWon) := goodIn_app (goodIn_of _ (by decide +kernel)) ggX11_image_X10_allWon
theorem dX11_image_0 : decode cX11_image 0 = .ok (.iload_n 1, 1) := by decide +kernel
theorem dX11_image_1 : decode cX11_image 1 = .ok (.ifCond .lt 8, 3) := by decide +kernel
theorem dX11_image_4 : decode cX11_image 4 = .ok (.iload_n 1, 1) := by decide +kernel
theorem dX11_image_5 : decode cX11_image 5 = .ok (.iconst 4, 1) := by decide +kernel
theorem dX11_image_6 : decode cX11_image 6 = .ok (.if_icmp .lt 5, 3) := by decide +kernel
theorem dX11_image_9 : decode cX11_image 9 = .ok (.iconst (-1), 1) := by decide +kernel
theorem dX11_image_10 : decode cX11_image 10 = .ok (.ireturn, 1) := by decide +kernel
theorem dX11_image_11 : decode cX11_image 11 = .ok (.aload_n 0, 1) := by decide +kernel
theorem dX11_image_12 : decode cX11_image 12 = .ok (.getfield 26, 3) := by decide +kernel
theorem dX11_image_15 : decode cX11_image 15 = .ok (.iload_n 1, 1) := by decide +kernel
theorem dX11_image_16 : decode cX11_image 16 = .ok (.aaload, 1) := by decide +kernel
theorem dX11_image_17 : decode cX11_image 17 = .ok (.ifnonnull 16, 3) := by decide +kernel
theorem dX11_image_20 : decode cX11_image 20 = .ok (.aload_n 0, 1) := by decide +kernel
theorem dX11_image_21 : decode cX11_image 21 = .ok (.getfield 26, 3) := by decide +kernel
theorem dX11_image_24 : decode cX11_image 24 = .ok (.iload_n 1, 1) := by decide +kernel
theorem dX11_image_25 : decode cX11_image 25 = .ok (.new 19, 3) := by decide +kernel
theorem dX11_image_28 : decode cX11_image 28 = .ok (.dup, 1) := by decide +kernel
theorem dX11_image_29 : decode cX11_image 29 = .ok (.invokespecial 21, 3) := by decide +kernel
theorem dX11_image_32 : decode cX11_image 32 = .ok (.aastore, 1) := by decide +kernel
theorem dX11_image_33 : decode cX11_image 33 = .ok (.aload_n 0, 1) := by decide +kernel
theorem dX11_image_34 : decode cX11_image 34 = .ok (.getfield 26, 3) := by decide +kernel
theorem dX11_image_37 : decode cX11_image 37 = .ok (.iload_n 1, 1) := by decide +kernel
theorem dX11_image_38 : decode cX11_image 38 = .ok (.aaload, 1) := by decide +kernel
theorem dX11_image_39 : decode cX11_image 39 = .ok (.aload_n 0, 1) := by decide +kernel
theorem dX11_image_40 : decode cX11_image 40 = .ok (.getfield 22, 3) := by decide +kernel
theorem dX11_image_43 : decode cX11_image 43 = .ok (.invokevirtual 322, 3) := by decide +kernel
theorem dX11_image_46 : decode cX11_image 46 = .ok (.aload_n 0, 1) := by decide +kernel
theorem dX11_image_47 : decode cX11_image 47 = .ok (.getfield 22, 3) := by decide +kernel
theorem dX11_image_50 : decode cX11_image 50 = .ok (.invokevirtual 319, 3) := by decide +kernel
theorem dX11_image_53 : decode cX11_image 53 = .ok (.ireturn, 1) := by decide +kernel
set_option maxRecDepth 20000 in
theorem ggX11_back_X10_copyFrom : GoodIn wsX11_back wsX10_copyFrom := goodIn_r _ [7, 8, 9, 10, 11, 12, 13, 14, 15, 16, 17, 18, 19, 20, 21, 22, 23, 24, 25, 26, 27, 28, 29, 30, 31, 32, 33, 34, 35, 36, 37, 38, 39, 40, 41, 42, 43, 44, 45, 46, 47, 48, 49, 50, 51, 52, 69, 70, 71, 72, 73, 74, 75, 76, 77, 78, 79, 80, 81, 82, 83, 84, 85, 86, 87, 88, 89, 90, 91, 92, 93] (by decide +kernel) (by decide +kernel)
set_option maxRecDepth 20000 in
theorem gX11_back_X10_copyFrom : GoodIn wsX11_back (wsV RX11 322 RX10 yX10_copyFrom wsX10_copyFrom) := goodIn_app (goodIn_of _ (by decide +kernel)) ggX11_back_X10_copyFrom
set_option maxRecDepth 20000 in
theorem ggX11_back_X10_allWon : GoodIn wsX11_back wsX10_allWon := goodIn_r _ [56, 11, 69, 70, 71, 72, 73] (by decide +kernel) (by decide +kernel)
set_option maxRecDepth 20000 in
theorem gX11_back_X10_allWon : GoodIn wsX11_back (wsV RX11 319 RX10 yX10_allWon wsX10_allWon) := goodIn_app (goodIn_of _ (by decide +kernel)) ggX11_back_X10_allWon
theorem dX11_back_0 : decode cX11_back 0 = .ok (.iload_n 1, 1) := by decide +kernel
theorem dX11_back_1 : decode cX11_back 1 = .ok (.ifCond .lt 17, 3) := by decide +kernel
theorem dX11_back_4 : decode cX11_back 4 = .ok (.iload_n 1, 1) := by decide +kernel
theorem dX11_back_5 : decode cX11_back 5 = .ok (.iconst 4, 1) := by decide +kernel
theorem dX11_back_6 : decode cX11_back 6 = .ok (.if_icmp .ge 12, 3) := by decide +kernel
theorem dX11_back_9 : decode cX11_back 9 = .ok (.aload_n 0, 1) := by decide +kernel
theorem dX11_back_10 : decode cX11_back 10 = .ok (.getfield 26, 3) := by decide +kernel
theorem dX11_back_13 : decode cX11_back 13 = .ok (.iload_n 1, 1) := by decide +kernel
theorem dX11_back_14 : decode cX11_back 14 = .ok (.aaload, 1) := by decide +kernel
theorem dX11_back_15 : decode cX11_back 15 = .ok (.ifnonnull 5, 3) := by decide +kernel
theorem dX11_back_18 : decode cX11_back 18 = .ok (.iconst (-1), 1) := by decide +kernel
theorem dX11_back_19 : decode cX11_back 19 = .ok (.ireturn, 1) := by decide +kernel
theorem dX11_back_20 : decode cX11_back 20 = .ok (.aload_n 0, 1) := by decide +kernel
theorem dX11_back_21 : decode cX11_back 21 = .ok (.getfield 22, 3) := by decide +kernel
theorem dX11_back_24 : decode cX11_back 24 = .ok (.aload_n 0, 1) := by decide +kernel
theorem dX11_back_25 : decode cX11_back 25 = .ok (.getfield 26, 3) := by decide +kernel
theorem dX11_back_28 : decode cX11_back 28 = .ok (.iload_n 1, 1) := by decide +kernel
theorem dX11_back_29 : decode cX11_back 29 = .ok (.aaload, 1) := by decide +kernel
theorem dX11_back_30 : decode cX11_back 30 = .ok (.invokevirtual 322, 3) := by decide +kernel
theorem dX11_back_33 : decode cX11_back 33 = .ok (.aload_n 0, 1) := by decide +kernel
theorem dX11_back_34 : decode cX11_back 34 = .ok (.getfield 22, 3) := by decide +kernel
theorem dX11_back_37 : decode cX11_back 37 = .ok (.invokevirtual 319, 3) := by decide +kernel
theorem dX11_back_40 : decode cX11_back 40 = .ok (.ireturn, 1) := by decide +kernel
theorem dX11_ruleAt_0 : decode cX11_ruleAt 0 = .ok (.iload_n 1, 1) := by decide +kernel
theorem dX11_ruleAt_1 : decode cX11_ruleAt 1 = .ok (.ifCond .lt 26, 3) := by decide +kernel
theorem dX11_ruleAt_4 : decode cX11_ruleAt 4 = .ok (.iload_n 1, 1) := by decide +kernel
theorem dX11_ruleAt_5 : decode cX11_ruleAt 5 = .ok (.aload_n 0, 1) := by decide +kernel
theorem dX11_ruleAt_6 : decode cX11_ruleAt 6 = .ok (.getfield 98, 3) := by decide +kernel
theorem dX11_ruleAt_9 : decode cX11_ruleAt 9 = .ok (.if_icmp .ge 18, 3) := by decide +kernel
theorem dX11_ruleAt_12 : decode cX11_ruleAt 12 = .ok (.iload_n 1, 1) := by decide +kernel
theorem dX11_ruleAt_13 : decode cX11_ruleAt 13 = .ok (.bipush 6, 2) := by decide +kernel
theorem dX11_ruleAt_15 : decode cX11_ruleAt 15 = .ok (.if_icmp .ge 12, 3) := by decide +kernel
theorem dX11_ruleAt_18 : decode cX11_ruleAt 18 = .ok (.aload_n 0, 1) := by decide +kernel
theorem dX11_ruleAt_19 : decode cX11_ruleAt 19 = .ok (.getfield 15, 3) := by decide +kernel
theorem dX11_ruleAt_22 : decode cX11_ruleAt 22 = .ok (.iload_n 1, 1) := by decide +kernel
theorem dX11_ruleAt_23 : decode cX11_ruleAt 23 = .ok (.aaload, 1) := by decide +kernel
theorem dX11_ruleAt_24 : decode cX11_ruleAt 24 = .ok (.goto 4, 3) := by decide +kernel
theorem dX11_ruleAt_27 : decode cX11_ruleAt 27 = .ok (.aconst_null, 1) := by decide +kernel
theorem dX11_ruleAt_28 : decode cX11_ruleAt 28 = .ok (.areturn, 1) := by decide +kernel
set_option maxRecDepth 20000 in
theorem ggX11_isRuleOrNone_X11_ruleAt : GoodIn wsX11_isRuleOrNone wsX11_ruleAt := goodIn_r _ [5, 6, 7, 8, 9, 10, 11, 12, 13, 14, 15, 16, 17, 18, 19] (by decide +kernel) (by decide +kernel)
set_option maxRecDepth 20000 in
theorem gX11_isRuleOrNone_X11_ruleAt : GoodIn wsX11_isRuleOrNone (wsV RX11 162 RX11 yX11_ruleAt wsX11_ruleAt) := goodIn_app (goodIn_of _ (by decide +kernel)) ggX11_isRuleOrNone_X11_ruleAt
theorem dX11_isRuleOrNone_0 : decode cX11_isRuleOrNone 0 = .ok (.iload_n 1, 1) := by decide +kernel
theorem dX11_isRuleOrNone_1 : decode cX11_isRuleOrNone 1 = .ok (.iconst (-1), 1) := by decide +kernel
theorem dX11_isRuleOrNone_2 : decode cX11_isRuleOrNone 2 = .ok (.if_icmp .eq 11, 3) := by decide +kernel
theorem dX11_isRuleOrNone_5 : decode cX11_isRuleOrNone 5 = .ok (.aload_n 0, 1) := by decide +kernel
theorem dX11_isRuleOrNone_6 : decode cX11_isRuleOrNone 6 = .ok (.iload_n 1, 1) := by decide +kernel
theorem dX11_isRuleOrNone_7 : decode cX11_isRuleOrNone 7 = .ok (.invokevirtual 162, 3) := by decide +kernel
theorem dX11_isRuleOrNone_10 : decode cX11_isRuleOrNone 10 = .ok (.ifnull 7, 3) := by decide +kernel
theorem dX11_isRuleOrNone_13 : decode cX11_isRuleOrNone 13 = .ok (.iconst 1, 1) := by decide +kernel
theorem dX11_isRuleOrNone_14 : decode cX11_isRuleOrNone 14 = .ok (.goto 4, 3) := by decide +kernel
theorem dX11_isRuleOrNone_17 : decode cX11_isRuleOrNone 17 = .ok (.iconst 0, 1) := by decide +kernel
theorem dX11_isRuleOrNone_18 : decode cX11_isRuleOrNone 18 = .ok (.ireturn, 1) := by decide +kernel
theorem dX11_hasCorner_0 : decode cX11_hasCorner 0 = .ok (.aload_n 0, 1) := by decide +kernel
theorem dX11_hasCorner_1 : decode cX11_hasCorner 1 = .ok (.getfield 22, 3) := by decide +kernel
theorem dX11_hasCorner_4 : decode cX11_hasCorner 4 = .ok (.getfield 108, 3) := by decide +kernel
theorem dX11_hasCorner_7 : decode cX11_hasCorner 7 = .ok (.getfield 95, 3) := by decide +kernel
theorem dX11_hasCorner_10 : decode cX11_hasCorner 10 = .ok (.ifCond .le 7, 3) := by decide +kernel
theorem dX11_hasCorner_13 : decode cX11_hasCorner 13 = .ok (.iconst 1, 1) := by decide +kernel
theorem dX11_hasCorner_14 : decode cX11_hasCorner 14 = .ok (.goto 4, 3) := by decide +kernel
theorem dX11_hasCorner_17 : decode cX11_hasCorner 17 = .ok (.iconst 0, 1) := by decide +kernel
theorem dX11_hasCorner_18 : decode cX11_hasCorner 18 = .ok (.ireturn, 1) := by decide +kernel
theorem dX11_isSide_0 : decode cX11_isSide 0 = .ok (.iload_n 0, 1) := by decide +kernel
theorem dX11_isSide_1 : decode cX11_isSide 1 = .ok (.ifCond .eq 8, 3) := by decide +kernel
theorem dX11_isSide_4 : decode cX11_isSide 4 = .ok (.iload_n 0, 1) := by decide +kernel
theorem dX11_isSide_5 : decode cX11_isSide 5 = .ok (.iconst 1, 1) := by decide +kernel
theorem dX11_isSide_6 : decode cX11_isSide 6 = .ok (.if_icmp .ne 7, 3) := by decide +kernel
theorem dX11_isSide_9 : decode cX11_isSide 9 = .ok (.iconst 1, 1) := by decide +kernel
theorem dX11_isSide_10 : decode cX11_isSide 10 = .ok (.goto 4, 3) := by decide +kernel
theorem dX11_isSide_13 : decode cX11_isSide 13 = .ok (.iconst 0, 1) := by decide +kernel
theorem dX11_isSide_14 : decode cX11_isSide 14 = .ok (.ireturn, 1) := by decide +kernel
theorem dX11_isPurse_0 : decode cX11_isPurse 0 = .ok (.iload_n 0, 1) := by decide +kernel
theorem dX11_isPurse_1 : decode cX11_isPurse 1 = .ok (.ifCond .lt 13, 3) := by decide +kernel
theorem dX11_isPurse_4 : decode cX11_isPurse 4 = .ok (.iload_n 0, 1) := by decide +kernel
theorem dX11_isPurse_5 : decode cX11_isPurse 5 = .ok (.bipush 7, 2) := by decide +kernel
theorem dX11_isPurse_7 : decode cX11_isPurse 7 = .ok (.if_icmp .gt 7, 3) := by decide +kernel
theorem dX11_isPurse_10 : decode cX11_isPurse 10 = .ok (.iconst 1, 1) := by decide +kernel
theorem dX11_isPurse_11 : decode cX11_isPurse 11 = .ok (.goto 4, 3) := by decide +kernel
theorem dX11_isPurse_14 : decode cX11_isPurse 14 = .ok (.iconst 0, 1) := by decide +kernel
theorem dX11_isPurse_15 : decode cX11_isPurse 15 = .ok (.ireturn, 1) := by decide +kernel
theorem dX12_init_0 : decode cX12_init 0 = .ok (.aload_n 0, 1) := by decide +kernel
theorem dX12_init_1 : decode cX12_init 1 = .ok (.invokespecial 1, 3) := by decide +kernel
theorem dX12_init_4 : decode cX12_init 4 = .ok (.aload_n 0, 1) := by decide +kernel
theorem dX12_init_5 : decode cX12_init 5 = .ok (.sipush 400, 3) := by decide +kernel
theorem dX12_init_8 : decode cX12_init 8 = .ok (.newarray .byte, 2) := by decide +kernel
theorem dX12_init_10 : decode cX12_init 10 = .ok (.putfield 7, 3) := by decide +kernel
theorem dX12_init_13 : decode cX12_init 13 = .ok (.aload_n 0, 1) := by decide +kernel
theorem dX12_init_14 : decode cX12_init 14 = .ok (.sipush 2400, 3) := by decide +kernel
theorem dX12_init_17 : decode cX12_init 17 = .ok (.newarray .int, 2) := by decide +kernel
theorem dX12_init_19 : decode cX12_init 19 = .ok (.putfield 13, 3) := by decide +kernel
theorem dX12_init_22 : decode cX12_init 22 = .ok (.aload_n 0, 1) := by decide +kernel
theorem dX12_init_23 : decode cX12_init 23 = .ok (.bipush 7, 2) := by decide +kernel
theorem dX12_init_25 : decode cX12_init 25 = .ok (.newarray .int, 2) := by decide +kernel
theorem dX12_init_27 : decode cX12_init 27 = .ok (.putfield 17, 3) := by decide +kernel
theorem dX12_init_30 : decode cX12_init 30 = .ok (.aload_n 0, 1) := by decide +kernel
theorem dX12_init_31 : decode cX12_init 31 = .ok (.sipush 288, 3) := by decide +kernel
theorem dX12_init_34 : decode cX12_init 34 = .ok (.newarray .int, 2) := by decide +kernel
theorem dX12_init_36 : decode cX12_init 36 = .ok (.putfield 20, 3) := by decide +kernel
theorem dX12_init_39 : decode cX12_init 39 = .ok (.aload_n 0, 1) := by decide +kernel
theorem dX12_init_40 : decode cX12_init 40 = .ok (.bipush 6, 2) := by decide +kernel
theorem dX12_init_42 : decode cX12_init 42 = .ok (.newarray .int, 2) := by decide +kernel
theorem dX12_init_44 : decode cX12_init 44 = .ok (.putfield 23, 3) := by decide +kernel
theorem dX12_init_47 : decode cX12_init 47 = .ok (.aload_n 0, 1) := by decide +kernel
theorem dX12_init_48 : decode cX12_init 48 = .ok (.bipush 8, 2) := by decide +kernel
theorem dX12_init_50 : decode cX12_init 50 = .ok (.newarray .int, 2) := by decide +kernel
theorem dX12_init_52 : decode cX12_init 52 = .ok (.putfield 26, 3) := by decide +kernel
theorem dX12_init_55 : decode cX12_init 55 = .ok (.aload_n 0, 1) := by decide +kernel
theorem dX12_init_56 : decode cX12_init 56 = .ok (.iconst 4, 1) := by decide +kernel
theorem dX12_init_57 : decode cX12_init 57 = .ok (.newarray .int, 2) := by decide +kernel
theorem dX12_init_59 : decode cX12_init 59 = .ok (.putfield 29, 3) := by decide +kernel
theorem dX12_init_62 : decode cX12_init 62 = .ok (.aload_n 0, 1) := by decide +kernel
theorem dX12_init_63 : decode cX12_init 63 = .ok (.iconst 2, 1) := by decide +kernel
theorem dX12_init_64 : decode cX12_init 64 = .ok (.newarray .int, 2) := by decide +kernel
theorem dX12_init_66 : decode cX12_init 66 = .ok (.putfield 32, 3) := by decide +kernel
theorem dX12_init_69 : decode cX12_init 69 = .ok (.aload_n 0, 1) := by decide +kernel
theorem dX12_init_70 : decode cX12_init 70 = .ok (.sipush 400, 3) := by decide +kernel
theorem dX12_init_73 : decode cX12_init 73 = .ok (.newarray .int, 2) := by decide +kernel
theorem dX12_init_75 : decode cX12_init 75 = .ok (.putfield 35, 3) := by decide +kernel
theorem dX12_init_78 : decode cX12_init 78 = .ok (.aload_n 0, 1) := by decide +kernel
theorem dX12_init_79 : decode cX12_init 79 = .ok (.bipush 64, 2) := by decide +kernel
theorem dX12_init_81 : decode cX12_init 81 = .ok (.newarray .long, 2) := by decide +kernel
theorem dX12_init_83 : decode cX12_init 83 = .ok (.putfield 38, 3) := by decide +kernel
theorem dX12_init_86 : decode cX12_init 86 = .ok (.aload_n 0, 1) := by decide +kernel
theorem dX12_init_87 : decode cX12_init 87 = .ok (.bipush 9, 2) := by decide +kernel
theorem dX12_init_89 : decode cX12_init 89 = .ok (.newarray .long, 2) := by decide +kernel
theorem dX12_init_91 : decode cX12_init 91 = .ok (.putfield 42, 3) := by decide +kernel
theorem dX12_init_94 : decode cX12_init 94 = .ok (.aload_n 0, 1) := by decide +kernel
theorem dX12_init_95 : decode cX12_init 95 = .ok (.bipush 44, 2) := by decide +kernel
theorem dX12_init_97 : decode cX12_init 97 = .ok (.newarray .int, 2) := by decide +kernel
theorem dX12_init_99 : decode cX12_init 99 = .ok (.putfield 45, 3) := by decide +kernel
theorem dX12_init_102 : decode cX12_init 102 = .ok (.aload_n 0, 1) := by decide +kernel
theorem dX12_init_103 : decode cX12_init 103 = .ok (.bipush 44, 2) := by decide +kernel
theorem dX12_init_105 : decode cX12_init 105 = .ok (.newarray .int, 2) := by decide +kernel
theorem dX12_init_107 : decode cX12_init 107 = .ok (.putfield 48, 3) := by decide +kernel
theorem dX12_init_110 : decode cX12_init 110 = .ok (.aload_n 0, 1) := by decide +kernel
theorem dX12_init_111 : decode cX12_init 111 = .ok (.sipush 12864, 3) := by decide +kernel
theorem dX12_init_114 : decode cX12_init 114 = .ok (.newarray .int, 2) := by decide +kernel
theorem dX12_init_116 : decode cX12_init 116 = .ok (.putfield 51, 3) := by decide +kernel
theorem dX12_init_119 : decode cX12_init 119 = .ok (.aload_n 0, 1) := by decide +kernel
theorem dX12_init_120 : decode cX12_init 120 = .ok (.sipush 396, 3) := by decide +kernel
theorem dX12_init_123 : decode cX12_init 123 = .ok (.newarray .int, 2) := by decide +kernel
theorem dX12_init_125 : decode cX12_init 125 = .ok (.putfield 54, 3) := by decide +kernel
theorem dX12_init_128 : decode cX12_init 128 = .ok (.aload_n 0, 1) := by decide +kernel
theorem dX12_init_129 : decode cX12_init 129 = .ok (.bipush 9, 2) := by decide +kernel
theorem dX12_init_131 : decode cX12_init 131 = .ok (.newarray .int, 2) := by decide +kernel
theorem dX12_init_133 : decode cX12_init 133 = .ok (.putfield 57, 3) := by decide +kernel
theorem dX12_init_136 : decode cX12_init 136 = .ok (.aload_n 0, 1) := by decide +kernel
theorem dX12_init_137 : decode cX12_init 137 = .ok (.bipush 6, 2) := by decide +kernel
theorem dX12_init_139 : decode cX12_init 139 = .ok (.newarray .int, 2) := by decide +kernel
theorem dX12_init_141 : decode cX12_init 141 = .ok (.putfield 60, 3) := by decide +kernel
theorem dX12_init_144 : decode cX12_init 144 = .ok (.aload_n 0, 1) := by decide +kernel
theorem dX12_init_145 : decode cX12_init 145 = .ok (.bipush 6, 2) := by decide +kernel
theorem dX12_init_147 : decode cX12_init 147 = .ok (.newarray .int, 2) := by decide +kernel
theorem dX12_init_149 : decode cX12_init 149 = .ok (.putfield 63, 3) := by decide +kernel
theorem dX12_init_152 : decode cX12_init 152 = .ok (.aload_n 0, 1) := by decide +kernel
theorem dX12_init_153 : decode cX12_init 153 = .ok (.bipush 64, 2) := by decide +kernel
theorem dX12_init_155 : decode cX12_init 155 = .ok (.newarray .int, 2) := by decide +kernel
theorem dX12_init_157 : decode cX12_init 157 = .ok (.putfield 66, 3) := by decide +kernel
theorem dX12_init_160 : decode cX12_init 160 = .ok (.aload_n 0, 1) := by decide +kernel
theorem dX12_init_161 : decode cX12_init 161 = .ok (.sipush 176, 3) := by decide +kernel
theorem dX12_init_164 : decode cX12_init 164 = .ok (.newarray .int, 2) := by decide +kernel
theorem dX12_init_166 : decode cX12_init 166 = .ok (.putfield 69, 3) := by decide +kernel
theorem dX12_init_169 : decode cX12_init 169 = .ok (.aload_n 0, 1) := by decide +kernel
theorem dX12_init_170 : decode cX12_init 170 = .ok (.iconst 4, 1) := by decide +kernel
theorem dX12_init_171 : decode cX12_init 171 = .ok (.newarray .boolean, 2) := by decide +kernel
theorem dX12_init_173 : decode cX12_init 173 = .ok (.putfield 72, 3) := by decide +kernel
theorem dX12_init_176 : decode cX12_init 176 = .ok (.return_, 1) := by decide +kernel
theorem dX12_in_0 : decode cX12_in 0 = .ok (.lload_n 0, 1) := by decide +kernel
theorem dX12_in_1 : decode cX12_in 1 = .ok (.lload_n 2, 1) := by decide +kernel
theorem dX12_in_2 : decode cX12_in 2 = .ok (.lcmp, 1) := by decide +kernel
theorem dX12_in_3 : decode cX12_in 3 = .ok (.ifCond .lt 14, 3) := by decide +kernel
theorem dX12_in_6 : decode cX12_in 6 = .ok (.lload_n 0, 1) := by decide +kernel
theorem dX12_in_7 : decode cX12_in 7 = .ok (.lload 4, 2) := by decide +kernel
theorem dX12_in_9 : decode cX12_in 9 = .ok (.lcmp, 1) := by decide +kernel
theorem dX12_in_10 : decode cX12_in 10 = .ok (.ifCond .gt 7, 3) := by decide +kernel
theorem dX12_in_13 : decode cX12_in 13 = .ok (.iconst 1, 1) := by decide +kernel
theorem dX12_in_14 : decode cX12_in 14 = .ok (.goto 4, 3) := by decide +kernel
theorem dX12_in_17 : decode cX12_in 17 = .ok (.iconst 0, 1) := by decide +kernel
theorem dX12_in_18 : decode cX12_in 18 = .ok (.ireturn, 1) := by decide +kernel
theorem dX12_four_0 : decode cX12_four 0 = .ok (.bipush 24, 2) := by decide +kernel
theorem dX12_four_2 : decode cX12_four 2 = .ok (.istore_n 2, 1) := by decide +kernel
theorem dX12_four_3 : decode cX12_four 3 = .ok (.iload_n 2, 1) := by decide +kernel
theorem dX12_four_4 : decode cX12_four 4 = .ok (.ifCond .lt 32, 3) := by decide +kernel
theorem dX12_four_7 : decode cX12_four 7 = .ok (.aload_n 0, 1) := by decide +kernel
theorem dX12_four_8 : decode cX12_four 8 = .ok (.getfield 7, 3) := by decide +kernel
theorem dX12_four_11 : decode cX12_four 11 = .ok (.aload_n 0, 1) := by decide +kernel
theorem dX12_four_12 : decode cX12_four 12 = .ok (.getfield 76, 3) := by decide +kernel
theorem dX12_four_15 : decode cX12_four 15 = .ok (.iload_n 1, 1) := by decide +kernel
theorem dX12_four_16 : decode cX12_four 16 = .ok (.iload_n 2, 1) := by decide +kernel
theorem dX12_four_17 : decode cX12_four 17 = .ok (.ishr, 1) := by decide +kernel
theorem dX12_four_18 : decode cX12_four 18 = .ok (.i2b, 1) := by decide +kernel
theorem dX12_four_19 : decode cX12_four 19 = .ok (.bastore, 1) := by decide +kernel
theorem dX12_four_20 : decode cX12_four 20 = .ok (.aload_n 0, 1) := by decide +kernel
theorem dX12_four_21 : decode cX12_four 21 = .ok (.dup, 1) := by decide +kernel
theorem dX12_four_22 : decode cX12_four 22 = .ok (.getfield 76, 3) := by decide +kernel
theorem dX12_four_25 : decode cX12_four 25 = .ok (.iconst 1, 1) := by decide +kernel
theorem dX12_four_26 : decode cX12_four 26 = .ok (.iadd, 1) := by decide +kernel
theorem dX12_four_27 : decode cX12_four 27 = .ok (.putfield 76, 3) := by decide +kernel
theorem dX12_four_30 : decode cX12_four 30 = .ok (.iinc 2 (-8), 3) := by decide +kernel
theorem dX12_four_33 : decode cX12_four 33 = .ok (.goto (-30), 3) := by decide +kernel
theorem dX12_four_36 : decode cX12_four 36 = .ok (.return_, 1) := by decide +kernel
set_option maxRecDepth 20000 in
theorem ggX12_feed_X12_four : GoodIn wsX12_feed wsX12_four := goodIn_r _ [6, 7, 1, 8, 9, 10, 11, 12, 13, 14, 15, 16, 17, 18, 19, 20, 21, 22, 23, 24, 25, 26, 27, 28, 29, 30, 31, 32, 33, 34, 35, 36, 37, 38, 39, 40, 41, 42, 43, 44] (by decide +kernel) (by decide +kernel)
set_option maxRecDepth 20000 in
theorem gX12_feed_X12_four : GoodIn wsX12_feed (wsV RX12 80 RX12 yX12_four wsX12_four) := goodIn_app (goodIn_of _ (by decide +kernel)) ggX12_feed_X12_four
theorem dX12_feed_0 : decode cX12_feed 0 = .ok (.aload_n 0, 1) := by decide +kernel
theorem dX12_feed_1 : decode cX12_feed 1 = .ok (.getfield 76, 3) := by decide +kernel
theorem dX12_feed_4 : decode cX12_feed 4 = .ok (.bipush 20, 2) := by decide +kernel
theorem dX12_feed_6 : decode cX12_feed 6 = .ok (.iadd, 1) := by decide +kernel
theorem dX12_feed_7 : decode cX12_feed 7 = .ok (.sipush 400, 3) := by decide +kernel
theorem dX12_feed_10 : decode cX12_feed 10 = .ok (.if_icmp .le 5, 3) := by decide +kernel
theorem dX12_feed_13 : decode cX12_feed 13 = .ok (.iconst (-1), 1) := by decide +kernel
theorem dX12_feed_14 : decode cX12_feed 14 = .ok (.ireturn, 1) := by decide +kernel
theorem dX12_feed_15 : decode cX12_feed 15 = .ok (.aload_n 0, 1) := by decide +kernel
theorem dX12_feed_16 : decode cX12_feed 16 = .ok (.iload_n 1, 1) := by decide +kernel
theorem dX12_feed_17 : decode cX12_feed 17 = .ok (.invokevirtual 80, 3) := by decide +kernel
theorem dX12_feed_20 : decode cX12_feed 20 = .ok (.aload_n 0, 1) := by decide +kernel
theorem dX12_feed_21 : decode cX12_feed 21 = .ok (.iload_n 2, 1) := by decide +kernel
theorem dX12_feed_22 : decode cX12_feed 22 = .ok (.invokevirtual 80, 3) := by decide +kernel
theorem dX12_feed_25 : decode cX12_feed 25 = .ok (.aload_n 0, 1) := by decide +kernel
theorem dX12_feed_26 : decode cX12_feed 26 = .ok (.iload_n 3, 1) := by decide +kernel
theorem dX12_feed_27 : decode cX12_feed 27 = .ok (.invokevirtual 80, 3) := by decide +kernel
theorem dX12_feed_30 : decode cX12_feed 30 = .ok (.aload_n 0, 1) := by decide +kernel
theorem dX12_feed_31 : decode cX12_feed 31 = .ok (.iload 4, 2) := by decide +kernel
theorem dX12_feed_33 : decode cX12_feed 33 = .ok (.invokevirtual 80, 3) := by decide +kernel
theorem dX12_feed_36 : decode cX12_feed 36 = .ok (.aload_n 0, 1) := by decide +kernel
theorem dX12_feed_37 : decode cX12_feed 37 = .ok (.iload 5, 2) := by decide +kernel
theorem dX12_feed_39 : decode cX12_feed 39 = .ok (.invokevirtual 80, 3) := by decide +kernel
theorem dX12_feed_42 : decode cX12_feed 42 = .ok (.aload_n 0, 1) := by decide +kernel
theorem dX12_feed_43 : decode cX12_feed 43 = .ok (.getfield 76, 3) := by decide +kernel
theorem dX12_feed_46 : decode cX12_feed 46 = .ok (.ireturn, 1) := by decide +kernel
theorem dX12_end_0 : decode cX12_end 0 = .ok (.iload_n 1, 1) := by decide +kernel
theorem dX12_end_1 : decode cX12_end 1 = .ok (.ifCond .lt 11, 3) := by decide +kernel
theorem dX12_end_4 : decode cX12_end 4 = .ok (.iload_n 1, 1) := by decide +kernel
theorem dX12_end_5 : decode cX12_end 5 = .ok (.aload_n 0, 1) := by decide +kernel
theorem dX12_end_6 : decode cX12_end 6 = .ok (.getfield 76, 3) := by decide +kernel
theorem dX12_end_9 : decode cX12_end 9 = .ok (.if_icmp .le 5, 3) := by decide +kernel
theorem dX12_end_12 : decode cX12_end 12 = .ok (.iconst (-1), 1) := by decide +kernel
theorem dX12_end_13 : decode cX12_end 13 = .ok (.ireturn, 1) := by decide +kernel
theorem dX12_end_14 : decode cX12_end 14 = .ok (.aload_n 0, 1) := by decide +kernel
theorem dX12_end_15 : decode cX12_end 15 = .ok (.iload_n 1, 1) := by decide +kernel
theorem dX12_end_16 : decode cX12_end 16 = .ok (.putfield 76, 3) := by decide +kernel
theorem dX12_end_19 : decode cX12_end 19 = .ok (.iload_n 1, 1) := by decide +kernel
theorem dX12_end_20 : decode cX12_end 20 = .ok (.ireturn, 1) := by decide +kernel
theorem dX12_fails_0 : decode cX12_fails 0 = .ok (.aload_n 0, 1) := by decide +kernel
theorem dX12_fails_1 : decode cX12_fails 1 = .ok (.getfield 84, 3) := by decide +kernel
theorem dX12_fails_4 : decode cX12_fails 4 = .ok (.ifCond .ne 15, 3) := by decide +kernel
theorem dX12_fails_7 : decode cX12_fails 7 = .ok (.aload_n 0, 1) := by decide +kernel
theorem dX12_fails_8 : decode cX12_fails 8 = .ok (.iconst 1, 1) := by decide +kernel
theorem dX12_fails_9 : decode cX12_fails 9 = .ok (.bipush 8, 2) := by decide +kernel
theorem dX12_fails_11 : decode cX12_fails 11 = .ok (.iload_n 2, 1) := by decide +kernel
theorem dX12_fails_12 : decode cX12_fails 12 = .ok (.imul, 1) := by decide +kernel
theorem dX12_fails_13 : decode cX12_fails 13 = .ok (.iadd, 1) := by decide +kernel
theorem dX12_fails_14 : decode cX12_fails 14 = .ok (.iload_n 1, 1) := by decide +kernel
theorem dX12_fails_15 : decode cX12_fails 15 = .ok (.iadd, 1) := by decide +kernel
theorem dX12_fails_16 : decode cX12_fails 16 = .ok (.putfield 84, 3) := by decide +kernel
theorem dX12_fails_19 : decode cX12_fails 19 = .ok (.iconst 0, 1) := by decide +kernel
theorem dX12_fails_20 : decode cX12_fails 20 = .ok (.ireturn, 1) := by decide +kernel
theorem dX12_see_0 : decode cX12_see 0 = .ok (.aload_n 0, 1) := by decide +kernel
theorem dX12_see_1 : decode cX12_see 1 = .ok (.getfield 87, 3) := by decide +kernel
theorem dX12_see_4 : decode cX12_see 4 = .ok (.aload_n 0, 1) := by decide +kernel
theorem dX12_see_5 : decode cX12_see 5 = .ok (.getfield 76, 3) := by decide +kernel
theorem dX12_see_8 : decode cX12_see 8 = .ok (.if_icmp .ge 30, 3) := by decide +kernel
theorem dX12_see_11 : decode cX12_see 11 = .ok (.aload_n 0, 1) := by decide +kernel
theorem dX12_see_12 : decode cX12_see 12 = .ok (.getfield 7, 3) := by decide +kernel
theorem dX12_see_15 : decode cX12_see 15 = .ok (.aload_n 0, 1) := by decide +kernel
theorem dX12_see_16 : decode cX12_see 16 = .ok (.getfield 87, 3) := by decide +kernel
theorem dX12_see_19 : decode cX12_see 19 = .ok (.baload, 1) := by decide +kernel
theorem dX12_see_20 : decode cX12_see 20 = .ok (.bipush 32, 2) := by decide +kernel
theorem dX12_see_22 : decode cX12_see 22 = .ok (.if_icmp .ne 16, 3) := by decide +kernel
theorem dX12_see_25 : decode cX12_see 25 = .ok (.aload_n 0, 1) := by decide +kernel
theorem dX12_see_26 : decode cX12_see 26 = .ok (.dup, 1) := by decide +kernel
theorem dX12_see_27 : decode cX12_see 27 = .ok (.getfield 87, 3) := by decide +kernel
theorem dX12_see_30 : decode cX12_see 30 = .ok (.iconst 1, 1) := by decide +kernel
theorem dX12_see_31 : decode cX12_see 31 = .ok (.iadd, 1) := by decide +kernel
theorem dX12_see_32 : decode cX12_see 32 = .ok (.putfield 87, 3) := by decide +kernel
theorem dX12_see_35 : decode cX12_see 35 = .ok (.goto (-35), 3) := by decide +kernel
theorem dX12_see_38 : decode cX12_see 38 = .ok (.aload_n 0, 1) := by decide +kernel
theorem dX12_see_39 : decode cX12_see 39 = .ok (.getfield 87, 3) := by decide +kernel
theorem dX12_see_42 : decode cX12_see 42 = .ok (.aload_n 0, 1) := by decide +kernel
theorem dX12_see_43 : decode cX12_see 43 = .ok (.getfield 76, 3) := by decide +kernel
theorem dX12_see_46 : decode cX12_see 46 = .ok (.if_icmp .ge 19, 3) := by decide +kernel
theorem dX12_see_49 : decode cX12_see 49 = .ok (.aload_n 0, 1) := by decide +kernel
theorem dX12_see_50 : decode cX12_see 50 = .ok (.getfield 7, 3) := by decide +kernel
theorem dX12_see_53 : decode cX12_see 53 = .ok (.aload_n 0, 1) := by decide +kernel
theorem dX12_see_54 : decode cX12_see 54 = .ok (.getfield 87, 3) := by decide +kernel
theorem dX12_see_57 : decode cX12_see 57 = .ok (.baload, 1) := by decide +kernel
theorem dX12_see_58 : decode cX12_see 58 = .ok (.sipush 255, 3) := by decide +kernel
theorem dX12_see_61 : decode cX12_see 61 = .ok (.iand, 1) := by decide +kernel
theorem dX12_see_62 : decode cX12_see 62 = .ok (.goto 4, 3) := by decide +kernel
theorem dX12_see_65 : decode cX12_see 65 = .ok (.iconst (-1), 1) := by decide +kernel
theorem dX12_see_66 : decode cX12_see 66 = .ok (.ireturn, 1) := by decide +kernel
theorem dX12_isDigit_0 : decode cX12_isDigit 0 = .ok (.iload_n 1, 1) := by decide +kernel
theorem dX12_isDigit_1 : decode cX12_isDigit 1 = .ok (.aload_n 0, 1) := by decide +kernel
theorem dX12_isDigit_2 : decode cX12_isDigit 2 = .ok (.getfield 76, 3) := by decide +kernel
theorem dX12_isDigit_5 : decode cX12_isDigit 5 = .ok (.if_icmp .ge 29, 3) := by decide +kernel
theorem dX12_isDigit_8 : decode cX12_isDigit 8 = .ok (.aload_n 0, 1) := by decide +kernel
theorem dX12_isDigit_9 : decode cX12_isDigit 9 = .ok (.getfield 7, 3) := by decide +kernel
theorem dX12_isDigit_12 : decode cX12_isDigit 12 = .ok (.iload_n 1, 1) := by decide +kernel
theorem dX12_isDigit_13 : decode cX12_isDigit 13 = .ok (.baload, 1) := by decide +kernel
theorem dX12_isDigit_14 : decode cX12_isDigit 14 = .ok (.bipush 48, 2) := by decide +kernel
theorem dX12_isDigit_16 : decode cX12_isDigit 16 = .ok (.if_icmp .lt 18, 3) := by decide +kernel
theorem dX12_isDigit_19 : decode cX12_isDigit 19 = .ok (.aload_n 0, 1) := by decide +kernel
theorem dX12_isDigit_20 : decode cX12_isDigit 20 = .ok (.getfield 7, 3) := by decide +kernel
theorem dX12_isDigit_23 : decode cX12_isDigit 23 = .ok (.iload_n 1, 1) := by decide +kernel
theorem dX12_isDigit_24 : decode cX12_isDigit 24 = .ok (.baload, 1) := by decide +kernel
theorem dX12_isDigit_25 : decode cX12_isDigit 25 = .ok (.bipush 57, 2) := by decide +kernel
theorem dX12_isDigit_27 : decode cX12_isDigit 27 = .ok (.if_icmp .gt 7, 3) := by decide +kernel
theorem dX12_isDigit_30 : decode cX12_isDigit 30 = .ok (.iconst 1, 1) := by decide +kernel
theorem dX12_isDigit_31 : decode cX12_isDigit 31 = .ok (.goto 4, 3) := by decide +kernel
theorem dX12_isDigit_34 : decode cX12_isDigit 34 = .ok (.iconst 0, 1) := by decide +kernel
theorem dX12_isDigit_35 : decode cX12_isDigit 35 = .ok (.ireturn, 1) := by decide +kernel
theorem dX12_isLetter_0 : decode cX12_isLetter 0 = .ok (.iload_n 1, 1) := by decide +kernel
theorem dX12_isLetter_1 : decode cX12_isLetter 1 = .ok (.aload_n 0, 1) := by decide +kernel
theorem dX12_isLetter_2 : decode cX12_isLetter 2 = .ok (.getfield 76, 3) := by decide +kernel
theorem dX12_isLetter_5 : decode cX12_isLetter 5 = .ok (.if_icmp .ge 29, 3) := by decide +kernel
theorem dX12_isLetter_8 : decode cX12_isLetter 8 = .ok (.aload_n 0, 1) := by decide +kernel
theorem dX12_isLetter_9 : decode cX12_isLetter 9 = .ok (.getfield 7, 3) := by decide +kernel
theorem dX12_isLetter_12 : decode cX12_isLetter 12 = .ok (.iload_n 1, 1) := by decide +kernel
theorem dX12_isLetter_13 : decode cX12_isLetter 13 = .ok (.baload, 1) := by decide +kernel
theorem dX12_isLetter_14 : decode cX12_isLetter 14 = .ok (.bipush 97, 2) := by decide +kernel
theorem dX12_isLetter_16 : decode cX12_isLetter 16 = .ok (.if_icmp .lt 18, 3) := by decide +kernel
theorem dX12_isLetter_19 : decode cX12_isLetter 19 = .ok (.aload_n 0, 1) := by decide +kernel
theorem dX12_isLetter_20 : decode cX12_isLetter 20 = .ok (.getfield 7, 3) := by decide +kernel
theorem dX12_isLetter_23 : decode cX12_isLetter 23 = .ok (.iload_n 1, 1) := by decide +kernel
theorem dX12_isLetter_24 : decode cX12_isLetter 24 = .ok (.baload, 1) := by decide +kernel
theorem dX12_isLetter_25 : decode cX12_isLetter 25 = .ok (.bipush 122, 2) := by decide +kernel
theorem dX12_isLetter_27 : decode cX12_isLetter 27 = .ok (.if_icmp .gt 7, 3) := by decide +kernel
theorem dX12_isLetter_30 : decode cX12_isLetter 30 = .ok (.iconst 1, 1) := by decide +kernel
theorem dX12_isLetter_31 : decode cX12_isLetter 31 = .ok (.goto 4, 3) := by decide +kernel
theorem dX12_isLetter_34 : decode cX12_isLetter 34 = .ok (.iconst 0, 1) := by decide +kernel
theorem dX12_isLetter_35 : decode cX12_isLetter 35 = .ok (.ireturn, 1) := by decide +kernel
set_option maxRecDepth 20000 in
theorem ggX12_isWord_X12_see : GoodIn wsX12_isWord wsX12_see := goodIn_r _ [7, 1, 8, 2, 13, 14, 15, 16, 17, 18, 19, 20, 21, 22, 23, 24, 25, 26, 27, 28, 29, 30, 31, 32, 33, 34, 35, 36, 37, 38, 39, 40, 41, 42, 43, 44, 45, 46, 47, 48, 49] (by decide +kernel) (by decide +kernel)
set_option maxRecDepth 20000 in
theorem gX12_isWord_X12_see : GoodIn wsX12_isWord (wsV RX12 90 RX12 yX12_see wsX12_see) := goodIn_app (goodIn_of _ (by decide +kernel)) ggX12_isWord_X12_see
set_option maxRecDepth 20000 in
theorem ggX12_isWord_X12_isLetter : GoodIn wsX12_isWord wsX12_isLetter := goodIn_r _ [12, 8, 2, 13, 14, 15, 16, 17, 18, 19, 20, 21, 22, 23, 24, 25, 26, 27, 28, 29, 30, 31, 32, 33, 34, 35, 36, 37, 38, 39, 40, 41, 42, 43, 44, 45, 46, 47, 48, 49] (by decide +kernel) (by decide +kernel)
set_option maxRecDepth 20000 in
theorem gX12_isWord_X12_isLetter : GoodIn wsX12_isWord (wsV RX12 94 RX12 yX12_isLetter wsX12_isLetter) := goodIn_app (goodIn_of _ (by decide +kernel)) ggX12_isWord_X12_isLetter
theorem dX12_isWord_0 : decode cX12_isWord 0 = .ok (.aload_n 0, 1) := by decide +kernel
theorem dX12_isWord_1 : decode cX12_isWord 1 = .ok (.invokevirtual 90, 3) := by decide +kernel
theorem dX12_isWord_4 : decode cX12_isWord 4 = .ok (.pop, 1) := by decide +kernel
theorem dX12_isWord_5 : decode cX12_isWord 5 = .ok (.lconst 0, 1) := by decide +kernel
theorem dX12_isWord_6 : decode cX12_isWord 6 = .ok (.lstore_n 3, 1) := by decide +kernel
theorem dX12_isWord_7 : decode cX12_isWord 7 = .ok (.iconst 0, 1) := by decide +kernel
theorem dX12_isWord_8 : decode cX12_isWord 8 = .ok (.istore 5, 2) := by decide +kernel
theorem dX12_isWord_10 : decode cX12_isWord 10 = .ok (.aload_n 0, 1) := by decide +kernel
theorem dX12_isWord_11 : decode cX12_isWord 11 = .ok (.aload_n 0, 1) := by decide +kernel
theorem dX12_isWord_12 : decode cX12_isWord 12 = .ok (.getfield 87, 3) := by decide +kernel
theorem dX12_isWord_15 : decode cX12_isWord 15 = .ok (.iload 5, 2) := by decide +kernel
theorem dX12_isWord_17 : decode cX12_isWord 17 = .ok (.iadd, 1) := by decide +kernel
theorem dX12_isWord_18 : decode cX12_isWord 18 = .ok (.invokevirtual 94, 3) := by decide +kernel
theorem dX12_isWord_21 : decode cX12_isWord 21 = .ok (.ifCond .eq 35, 3) := by decide +kernel
theorem dX12_isWord_24 : decode cX12_isWord 24 = .ok (.iload 5, 2) := by decide +kernel
theorem dX12_isWord_26 : decode cX12_isWord 26 = .ok (.bipush 8, 2) := by decide +kernel
theorem dX12_isWord_28 : decode cX12_isWord 28 = .ok (.if_icmp .ge 22, 3) := by decide +kernel
theorem dX12_isWord_31 : decode cX12_isWord 31 = .ok (.lload_n 3, 1) := by decide +kernel
theorem dX12_isWord_32 : decode cX12_isWord 32 = .ok (.bipush 8, 2) := by decide +kernel
theorem dX12_isWord_34 : decode cX12_isWord 34 = .ok (.lshl, 1) := by decide +kernel
theorem dX12_isWord_35 : decode cX12_isWord 35 = .ok (.aload_n 0, 1) := by decide +kernel
theorem dX12_isWord_36 : decode cX12_isWord 36 = .ok (.getfield 7, 3) := by decide +kernel
theorem dX12_isWord_39 : decode cX12_isWord 39 = .ok (.aload_n 0, 1) := by decide +kernel
theorem dX12_isWord_40 : decode cX12_isWord 40 = .ok (.getfield 87, 3) := by decide +kernel
theorem dX12_isWord_43 : decode cX12_isWord 43 = .ok (.iload 5, 2) := by decide +kernel
theorem dX12_isWord_45 : decode cX12_isWord 45 = .ok (.iadd, 1) := by decide +kernel
theorem dX12_isWord_46 : decode cX12_isWord 46 = .ok (.baload, 1) := by decide +kernel
theorem dX12_isWord_47 : decode cX12_isWord 47 = .ok (.i2l, 1) := by decide +kernel
theorem dX12_isWord_48 : decode cX12_isWord 48 = .ok (.lor, 1) := by decide +kernel
theorem dX12_isWord_49 : decode cX12_isWord 49 = .ok (.lstore_n 3, 1) := by decide +kernel
theorem dX12_isWord_50 : decode cX12_isWord 50 = .ok (.iinc 5 1, 3) := by decide +kernel
theorem dX12_isWord_53 : decode cX12_isWord 53 = .ok (.goto (-43), 3) := by decide +kernel
theorem dX12_isWord_56 : decode cX12_isWord 56 = .ok (.iload 5, 2) := by decide +kernel
theorem dX12_isWord_58 : decode cX12_isWord 58 = .ok (.ifCond .le 20, 3) := by decide +kernel
theorem dX12_isWord_61 : decode cX12_isWord 61 = .ok (.iload 5, 2) := by decide +kernel
theorem dX12_isWord_63 : decode cX12_isWord 63 = .ok (.bipush 8, 2) := by decide +kernel
theorem dX12_isWord_65 : decode cX12_isWord 65 = .ok (.if_icmp .ge 13, 3) := by decide +kernel
theorem dX12_isWord_68 : decode cX12_isWord 68 = .ok (.lload_n 3, 1) := by decide +kernel
theorem dX12_isWord_69 : decode cX12_isWord 69 = .ok (.lload_n 1, 1) := by decide +kernel
theorem dX12_isWord_70 : decode cX12_isWord 70 = .ok (.lcmp, 1) := by decide +kernel
theorem dX12_isWord_71 : decode cX12_isWord 71 = .ok (.ifCond .ne 7, 3) := by decide +kernel
theorem dX12_isWord_74 : decode cX12_isWord 74 = .ok (.iconst 1, 1) := by decide +kernel
theorem dX12_isWord_75 : decode cX12_isWord 75 = .ok (.goto 4, 3) := by decide +kernel
theorem dX12_isWord_78 : decode cX12_isWord 78 = .ok (.iconst 0, 1) := by decide +kernel
theorem dX12_isWord_79 : decode cX12_isWord 79 = .ok (.ireturn, 1) := by decide +kernel
set_option maxRecDepth 20000 in
theorem ggX12_passWord_X12_isLetter : GoodIn wsX12_passWord wsX12_isLetter := goodIn_r _ [6, 7, 8, 9, 10, 11, 12, 13, 14, 15, 16, 17, 18, 19, 20, 21, 22, 23, 24, 25, 26, 27, 28, 29, 30, 31, 32, 33, 34, 35, 36, 37, 38, 39, 40, 41, 42, 43, 44, 45] (by decide +kernel) (by decide +kernel)
set_option maxRecDepth 20000 in
theorem gX12_passWord_X12_isLetter : GoodIn wsX12_passWord (wsV RX12 94 RX12 yX12_isLetter wsX12_isLetter) := goodIn_app (goodIn_of _ (by decide +kernel)) ggX12_passWord_X12_isLetter
theorem dX12_passWord_0 : decode cX12_passWord 0 = .ok (.aload_n 0, 1) := by decide +kernel
theorem dX12_passWord_1 : decode cX12_passWord 1 = .ok (.aload_n 0, 1) := by decide +kernel
theorem dX12_passWord_2 : decode cX12_passWord 2 = .ok (.getfield 87, 3) := by decide +kernel
theorem dX12_passWord_5 : decode cX12_passWord 5 = .ok (.invokevirtual 94, 3) := by decide +kernel
theorem dX12_passWord_8 : decode cX12_passWord 8 = .ok (.ifCond .eq 16, 3) := by decide +kernel
theorem dX12_passWord_11 : decode cX12_passWord 11 = .ok (.aload_n 0, 1) := by decide +kernel
theorem dX12_passWord_12 : decode cX12_passWord 12 = .ok (.dup, 1) := by decide +kernel
theorem dX12_passWord_13 : decode cX12_passWord 13 = .ok (.getfield 87, 3) := by decide +kernel
theorem dX12_passWord_16 : decode cX12_passWord 16 = .ok (.iconst 1, 1) := by decide +kernel
theorem dX12_passWord_17 : decode cX12_passWord 17 = .ok (.iadd, 1) := by decide +kernel
theorem dX12_passWord_18 : decode cX12_passWord 18 = .ok (.putfield 87, 3) := by decide +kernel
theorem dX12_passWord_21 : decode cX12_passWord 21 = .ok (.goto (-21), 3) := by decide +kernel
theorem dX12_passWord_24 : decode cX12_passWord 24 = .ok (.return_, 1) := by decide +kernel
set_option maxRecDepth 20000 in
theorem ggX12_takesWord_X12_isWord : GoodIn wsX12_takesWord wsX12_isWord := goodIn_r _ [5, 6, 7, 8, 9, 10, 4, 11, 12, 13, 14, 15, 16, 21, 22, 23, 24, 25, 26, 27, 28, 29, 30, 31, 32, 33, 34, 35, 36, 37, 38, 39, 40, 41, 42, 43, 44, 45, 46, 47, 48, 49, 50, 51, 52, 53, 54, 55, 56, 57] (by decide +kernel) (by decide +kernel)
set_option maxRecDepth 20000 in
theorem gX12_takesWord_X12_isWord : GoodIn wsX12_takesWord (wsV RX12 98 RX12 yX12_isWord wsX12_isWord) := goodIn_app (goodIn_of _ (by decide +kernel)) ggX12_takesWord_X12_isWord
set_option maxRecDepth 20000 in
theorem ggX12_takesWord_X12_passWord : GoodIn wsX12_takesWord wsX12_passWord := goodIn_r _ [20, 6, 13, 14, 15, 4, 16, 12, 7, 21, 22, 23, 24, 25, 26, 27, 28, 29, 30, 31, 32, 33, 34, 35, 36, 37, 38, 39, 40, 41, 42, 43, 44, 45, 46, 47, 48, 49, 50, 51, 52, 53, 54, 55, 56, 57] (by decide +kernel) (by decide +kernel)
set_option maxRecDepth 20000 in
theorem gX12_takesWord_X12_passWord : GoodIn wsX12_takesWord (wsV RX12 102 RX12 yX12_passWord wsX12_passWord) := goodIn_app (goodIn_of _ (by decide +kernel)) ggX12_takesWord_X12_passWord
theorem dX12_takesWord_0 : decode cX12_takesWord 0 = .ok (.aload_n 0, 1) := by decide +kernel
theorem dX12_takesWord_1 : decode cX12_takesWord 1 = .ok (.lload_n 1, 1) := by decide +kernel
theorem dX12_takesWord_2 : decode cX12_takesWord 2 = .ok (.invokevirtual 98, 3) := by decide +kernel
theorem dX12_takesWord_5 : decode cX12_takesWord 5 = .ok (.ifCond .ne 5, 3) := by decide +kernel
theorem dX12_takesWord_8 : decode cX12_takesWord 8 = .ok (.iconst 0, 1) := by decide +kernel
theorem dX12_takesWord_9 : decode cX12_takesWord 9 = .ok (.ireturn, 1) := by decide +kernel
theorem dX12_takesWord_10 : decode cX12_takesWord 10 = .ok (.aload_n 0, 1) := by decide +kernel
theorem dX12_takesWord_11 : decode cX12_takesWord 11 = .ok (.invokevirtual 102, 3) := by decide +kernel
theorem dX12_takesWord_14 : decode cX12_takesWord 14 = .ok (.iconst 1, 1) := by decide +kernel
theorem dX12_takesWord_15 : decode cX12_takesWord 15 = .ok (.ireturn, 1) := by decide +kernel
set_option maxRecDepth 20000 in
theorem ggX12_numberHere_X12_see : GoodIn wsX12_numberHere wsX12_see := goodIn_r _ [8, 1, 9, 2, 22, 23, 24, 25, 26, 27, 28, 29, 30, 31, 32, 33, 34, 35, 36, 37, 38, 39, 40, 41, 42, 43, 44, 45, 46, 47, 48, 49, 50, 51, 52, 53, 54, 55, 56, 57, 58] (by decide +kernel) (by decide +kernel)
set_option maxRecDepth 20000 in
theorem gX12_numberHere_X12_see : GoodIn wsX12_numberHere (wsV RX12 90 RX12 yX12_see wsX12_see) := goodIn_app (goodIn_of _ (by decide +kernel)) ggX12_numberHere_X12_see
set_option maxRecDepth 20000 in
theorem ggX12_numberHere_X12_isDigit : GoodIn wsX12_numberHere wsX12_isDigit := goodIn_r _ [13, 9, 2, 22, 23, 24, 25, 26, 27, 28, 29, 30, 31, 32, 33, 34, 35, 36, 37, 38, 39, 40, 41, 42, 43, 44, 45, 46, 47, 48, 49, 50, 51, 52, 53, 54, 55, 56, 57, 58] (by decide +kernel) (by decide +kernel)
set_option maxRecDepth 20000 in
theorem gX12_numberHere_X12_isDigit : GoodIn wsX12_numberHere (wsV RX12 105 RX12 yX12_isDigit wsX12_isDigit) := goodIn_app (goodIn_of _ (by decide +kernel)) ggX12_numberHere_X12_isDigit
set_option maxRecDepth 20000 in
theorem ggX12_numberHere_X12_fails : GoodIn wsX12_numberHere wsX12_fails := goodIn_r _ [17, 18, 22, 23, 24, 25, 26, 27, 28, 29, 30, 31, 32, 33, 34, 35, 36, 37, 38, 39, 40, 41, 42, 43, 44, 45, 46, 47, 48, 49, 50, 51, 52, 53, 54, 55, 56, 57, 58] (by decide +kernel) (by decide +kernel)
set_option maxRecDepth 20000 in
theorem gX12_numberHere_X12_fails : GoodIn wsX12_numberHere (wsV RX12 108 RX12 yX12_fails wsX12_fails) := goodIn_app (goodIn_of _ (by decide +kernel)) ggX12_numberHere_X12_fails
set_option maxRecDepth 20000 in
theorem ggX12_numberHere_X12_in : GoodIn wsX12_numberHere wsX12_in := goodIn_r _ [21] (by decide +kernel) (by decide +kernel)
set_option maxRecDepth 20000 in
theorem gX12_numberHere_X12_in : GoodIn wsX12_numberHere (va_wsS RX12 115 yX12_in wsX12_in) := goodIn_app (goodIn_of _ (by decide +kernel)) ggX12_numberHere_X12_in
theorem dX12_numberHere_0 : decode cX12_numberHere 0 = .ok (.aload_n 0, 1) := by decide +kernel
theorem dX12_numberHere_1 : decode cX12_numberHere 1 = .ok (.invokevirtual 90, 3) := by decide +kernel
theorem dX12_numberHere_4 : decode cX12_numberHere 4 = .ok (.pop, 1) := by decide +kernel
theorem dX12_numberHere_5 : decode cX12_numberHere 5 = .ok (.aload_n 0, 1) := by decide +kernel
theorem dX12_numberHere_6 : decode cX12_numberHere 6 = .ok (.aload_n 0, 1) := by decide +kernel
theorem dX12_numberHere_7 : decode cX12_numberHere 7 = .ok (.getfield 87, 3) := by decide +kernel
theorem dX12_numberHere_10 : decode cX12_numberHere 10 = .ok (.invokevirtual 105, 3) := by decide +kernel
theorem dX12_numberHere_13 : decode cX12_numberHere 13 = .ok (.ifCond .ne 13, 3) := by decide +kernel
theorem dX12_numberHere_16 : decode cX12_numberHere 16 = .ok (.aload_n 0, 1) := by decide +kernel
theorem dX12_numberHere_17 : decode cX12_numberHere 17 = .ok (.iconst 0, 1) := by decide +kernel
theorem dX12_numberHere_18 : decode cX12_numberHere 18 = .ok (.aload_n 0, 1) := by decide +kernel
theorem dX12_numberHere_19 : decode cX12_numberHere 19 = .ok (.getfield 87, 3) := by decide +kernel
theorem dX12_numberHere_22 : decode cX12_numberHere 22 = .ok (.invokevirtual 108, 3) := by decide +kernel
theorem dX12_numberHere_25 : decode cX12_numberHere 25 = .ok (.ireturn, 1) := by decide +kernel
theorem dX12_numberHere_26 : decode cX12_numberHere 26 = .ok (.aload_n 0, 1) := by decide +kernel
theorem dX12_numberHere_27 : decode cX12_numberHere 27 = .ok (.getfield 87, 3) := by decide +kernel
theorem dX12_numberHere_30 : decode cX12_numberHere 30 = .ok (.istore_n 3, 1) := by decide +kernel
theorem dX12_numberHere_31 : decode cX12_numberHere 31 = .ok (.iconst 0, 1) := by decide +kernel
theorem dX12_numberHere_32 : decode cX12_numberHere 32 = .ok (.istore 4, 2) := by decide +kernel
theorem dX12_numberHere_34 : decode cX12_numberHere 34 = .ok (.aload_n 0, 1) := by decide +kernel
theorem dX12_numberHere_35 : decode cX12_numberHere 35 = .ok (.aload_n 0, 1) := by decide +kernel
theorem dX12_numberHere_36 : decode cX12_numberHere 36 = .ok (.getfield 87, 3) := by decide +kernel
theorem dX12_numberHere_39 : decode cX12_numberHere 39 = .ok (.invokevirtual 105, 3) := by decide +kernel
theorem dX12_numberHere_42 : decode cX12_numberHere 42 = .ok (.ifCond .eq 46, 3) := by decide +kernel
theorem dX12_numberHere_45 : decode cX12_numberHere 45 = .ok (.aload_n 0, 1) := by decide +kernel
theorem dX12_numberHere_46 : decode cX12_numberHere 46 = .ok (.getfield 87, 3) := by decide +kernel
theorem dX12_numberHere_49 : decode cX12_numberHere 49 = .ok (.iload_n 3, 1) := by decide +kernel
theorem dX12_numberHere_50 : decode cX12_numberHere 50 = .ok (.isub, 1) := by decide +kernel
theorem dX12_numberHere_51 : decode cX12_numberHere 51 = .ok (.iconst 5, 1) := by decide +kernel
theorem dX12_numberHere_52 : decode cX12_numberHere 52 = .ok (.if_icmp .ge 23, 3) := by decide +kernel
theorem dX12_numberHere_55 : decode cX12_numberHere 55 = .ok (.bipush 10, 2) := by decide +kernel
theorem dX12_numberHere_57 : decode cX12_numberHere 57 = .ok (.iload 4, 2) := by decide +kernel
theorem dX12_numberHere_59 : decode cX12_numberHere 59 = .ok (.imul, 1) := by decide +kernel
theorem dX12_numberHere_60 : decode cX12_numberHere 60 = .ok (.aload_n 0, 1) := by decide +kernel
theorem dX12_numberHere_61 : decode cX12_numberHere 61 = .ok (.getfield 7, 3) := by decide +kernel
theorem dX12_numberHere_64 : decode cX12_numberHere 64 = .ok (.aload_n 0, 1) := by decide +kernel
theorem dX12_numberHere_65 : decode cX12_numberHere 65 = .ok (.getfield 87, 3) := by decide +kernel
theorem dX12_numberHere_68 : decode cX12_numberHere 68 = .ok (.baload, 1) := by decide +kernel
theorem dX12_numberHere_69 : decode cX12_numberHere 69 = .ok (.iadd, 1) := by decide +kernel
theorem dX12_numberHere_70 : decode cX12_numberHere 70 = .ok (.bipush 48, 2) := by decide +kernel
theorem dX12_numberHere_72 : decode cX12_numberHere 72 = .ok (.isub, 1) := by decide +kernel
theorem dX12_numberHere_73 : decode cX12_numberHere 73 = .ok (.istore 4, 2) := by decide +kernel
theorem dX12_numberHere_75 : decode cX12_numberHere 75 = .ok (.aload_n 0, 1) := by decide +kernel
theorem dX12_numberHere_76 : decode cX12_numberHere 76 = .ok (.dup, 1) := by decide +kernel
theorem dX12_numberHere_77 : decode cX12_numberHere 77 = .ok (.getfield 87, 3) := by decide +kernel
theorem dX12_numberHere_80 : decode cX12_numberHere 80 = .ok (.iconst 1, 1) := by decide +kernel
theorem dX12_numberHere_81 : decode cX12_numberHere 81 = .ok (.iadd, 1) := by decide +kernel
theorem dX12_numberHere_82 : decode cX12_numberHere 82 = .ok (.putfield 87, 3) := by decide +kernel
theorem dX12_numberHere_85 : decode cX12_numberHere 85 = .ok (.goto (-51), 3) := by decide +kernel
theorem dX12_numberHere_88 : decode cX12_numberHere 88 = .ok (.aload_n 0, 1) := by decide +kernel
theorem dX12_numberHere_89 : decode cX12_numberHere 89 = .ok (.iload 4, 2) := by decide +kernel
theorem dX12_numberHere_91 : decode cX12_numberHere 91 = .ok (.putfield 112, 3) := by decide +kernel
theorem dX12_numberHere_94 : decode cX12_numberHere 94 = .ok (.aload_n 0, 1) := by decide +kernel
theorem dX12_numberHere_95 : decode cX12_numberHere 95 = .ok (.getfield 87, 3) := by decide +kernel
theorem dX12_numberHere_98 : decode cX12_numberHere 98 = .ok (.iload_n 3, 1) := by decide +kernel
theorem dX12_numberHere_99 : decode cX12_numberHere 99 = .ok (.isub, 1) := by decide +kernel
theorem dX12_numberHere_100 : decode cX12_numberHere 100 = .ok (.iconst 5, 1) := by decide +kernel
theorem dX12_numberHere_101 : decode cX12_numberHere 101 = .ok (.if_icmp .gt 16, 3) := by decide +kernel
theorem dX12_numberHere_104 : decode cX12_numberHere 104 = .ok (.iload 4, 2) := by decide +kernel
theorem dX12_numberHere_106 : decode cX12_numberHere 106 = .ok (.i2l, 1) := by decide +kernel
theorem dX12_numberHere_107 : decode cX12_numberHere 107 = .ok (.iload_n 1, 1) := by decide +kernel
theorem dX12_numberHere_108 : decode cX12_numberHere 108 = .ok (.i2l, 1) := by decide +kernel
theorem dX12_numberHere_109 : decode cX12_numberHere 109 = .ok (.iload_n 2, 1) := by decide +kernel
theorem dX12_numberHere_110 : decode cX12_numberHere 110 = .ok (.i2l, 1) := by decide +kernel
theorem dX12_numberHere_111 : decode cX12_numberHere 111 = .ok (.invokestatic 115, 3) := by decide +kernel
theorem dX12_numberHere_114 : decode cX12_numberHere 114 = .ok (.ifCond .ne 12, 3) := by decide +kernel
theorem dX12_numberHere_117 : decode cX12_numberHere 117 = .ok (.aload_n 0, 1) := by decide +kernel
theorem dX12_numberHere_118 : decode cX12_numberHere 118 = .ok (.iconst 1, 1) := by decide +kernel
theorem dX12_numberHere_119 : decode cX12_numberHere 119 = .ok (.iload_n 3, 1) := by decide +kernel
theorem dX12_numberHere_120 : decode cX12_numberHere 120 = .ok (.invokevirtual 108, 3) := by decide +kernel
theorem dX12_numberHere_123 : decode cX12_numberHere 123 = .ok (.ifCond .eq 7, 3) := by decide +kernel
theorem dX12_numberHere_126 : decode cX12_numberHere 126 = .ok (.iconst 1, 1) := by decide +kernel
theorem dX12_numberHere_127 : decode cX12_numberHere 127 = .ok (.goto 4, 3) := by decide +kernel
theorem dX12_numberHere_130 : decode cX12_numberHere 130 = .ok (.iconst 0, 1) := by decide +kernel
theorem dX12_numberHere_131 : decode cX12_numberHere 131 = .ok (.ireturn, 1) := by decide +kernel
set_option maxRecDepth 20000 in
theorem ggX12_wordHere_X12_isWord : GoodIn wsX12_wordHere wsX12_isWord := goodIn_r _ [14, 15, 16, 17, 18, 19, 13, 20, 21, 22, 23, 24, 25, 26, 27, 28, 29, 30, 31, 32, 33, 34, 35, 36, 37, 38, 39, 40, 41, 42, 43, 44, 45, 46, 47, 48, 49, 50, 51, 52, 53, 54, 55, 56, 57, 58, 59, 60, 61, 62] (by decide +kernel) (by decide +kernel)
set_option maxRecDepth 20000 in
theorem gX12_wordHere_X12_isWord : GoodIn wsX12_wordHere (wsV RX12 98 RX12 yX12_isWord wsX12_isWord) := goodIn_app (goodIn_of _ (by decide +kernel)) ggX12_wordHere_X12_isWord
theorem dX12_wordHere_0 : decode cX12_wordHere 0 = .ok (.aload_n 0, 1) := by decide +kernel
theorem dX12_wordHere_1 : decode cX12_wordHere 1 = .ok (.ldc2_w 119, 3) := by decide +kernel
theorem dX12_wordHere_4 : decode cX12_wordHere 4 = .ok (.invokevirtual 98, 3) := by decide +kernel
theorem dX12_wordHere_7 : decode cX12_wordHere 7 = .ok (.ifCond .eq 5, 3) := by decide +kernel
theorem dX12_wordHere_10 : decode cX12_wordHere 10 = .ok (.iconst 0, 1) := by decide +kernel
theorem dX12_wordHere_11 : decode cX12_wordHere 11 = .ok (.ireturn, 1) := by decide +kernel
theorem dX12_wordHere_12 : decode cX12_wordHere 12 = .ok (.aload_n 0, 1) := by decide +kernel
theorem dX12_wordHere_13 : decode cX12_wordHere 13 = .ok (.ldc2_w 121, 3) := by decide +kernel
theorem dX12_wordHere_16 : decode cX12_wordHere 16 = .ok (.invokevirtual 98, 3) := by decide +kernel
theorem dX12_wordHere_19 : decode cX12_wordHere 19 = .ok (.ifCond .eq 5, 3) := by decide +kernel
theorem dX12_wordHere_22 : decode cX12_wordHere 22 = .ok (.iconst 1, 1) := by decide +kernel
theorem dX12_wordHere_23 : decode cX12_wordHere 23 = .ok (.ireturn, 1) := by decide +kernel
theorem dX12_wordHere_24 : decode cX12_wordHere 24 = .ok (.aload_n 0, 1) := by decide +kernel
theorem dX12_wordHere_25 : decode cX12_wordHere 25 = .ok (.ldc2_w 123, 3) := by decide +kernel
theorem dX12_wordHere_28 : decode cX12_wordHere 28 = .ok (.invokevirtual 98, 3) := by decide +kernel
theorem dX12_wordHere_31 : decode cX12_wordHere 31 = .ok (.ifCond .eq 5, 3) := by decide +kernel
theorem dX12_wordHere_34 : decode cX12_wordHere 34 = .ok (.iconst 2, 1) := by decide +kernel
theorem dX12_wordHere_35 : decode cX12_wordHere 35 = .ok (.ireturn, 1) := by decide +kernel
theorem dX12_wordHere_36 : decode cX12_wordHere 36 = .ok (.aload_n 0, 1) := by decide +kernel
theorem dX12_wordHere_37 : decode cX12_wordHere 37 = .ok (.ldc2_w 125, 3) := by decide +kernel
theorem dX12_wordHere_40 : decode cX12_wordHere 40 = .ok (.invokevirtual 98, 3) := by decide +kernel
theorem dX12_wordHere_43 : decode cX12_wordHere 43 = .ok (.ifCond .eq 5, 3) := by decide +kernel
theorem dX12_wordHere_46 : decode cX12_wordHere 46 = .ok (.iconst 3, 1) := by decide +kernel
theorem dX12_wordHere_47 : decode cX12_wordHere 47 = .ok (.ireturn, 1) := by decide +kernel
theorem dX12_wordHere_48 : decode cX12_wordHere 48 = .ok (.aload_n 0, 1) := by decide +kernel
theorem dX12_wordHere_49 : decode cX12_wordHere 49 = .ok (.ldc2_w 127, 3) := by decide +kernel
theorem dX12_wordHere_52 : decode cX12_wordHere 52 = .ok (.invokevirtual 98, 3) := by decide +kernel
theorem dX12_wordHere_55 : decode cX12_wordHere 55 = .ok (.ifCond .eq 5, 3) := by decide +kernel
theorem dX12_wordHere_58 : decode cX12_wordHere 58 = .ok (.iconst 4, 1) := by decide +kernel
theorem dX12_wordHere_59 : decode cX12_wordHere 59 = .ok (.ireturn, 1) := by decide +kernel
theorem dX12_wordHere_60 : decode cX12_wordHere 60 = .ok (.aload_n 0, 1) := by decide +kernel
theorem dX12_wordHere_61 : decode cX12_wordHere 61 = .ok (.ldc2_w 129, 3) := by decide +kernel
theorem dX12_wordHere_64 : decode cX12_wordHere 64 = .ok (.invokevirtual 98, 3) := by decide +kernel
theorem dX12_wordHere_67 : decode cX12_wordHere 67 = .ok (.ifCond .eq 5, 3) := by decide +kernel
theorem dX12_wordHere_70 : decode cX12_wordHere 70 = .ok (.iconst 5, 1) := by decide +kernel
theorem dX12_wordHere_71 : decode cX12_wordHere 71 = .ok (.ireturn, 1) := by decide +kernel
theorem dX12_wordHere_72 : decode cX12_wordHere 72 = .ok (.aload_n 0, 1) := by decide +kernel
theorem dX12_wordHere_73 : decode cX12_wordHere 73 = .ok (.ldc2_w 131, 3) := by decide +kernel
theorem dX12_wordHere_76 : decode cX12_wordHere 76 = .ok (.invokevirtual 98, 3) := by decide +kernel
theorem dX12_wordHere_79 : decode cX12_wordHere 79 = .ok (.ifCond .eq 6, 3) := by decide +kernel
theorem dX12_wordHere_82 : decode cX12_wordHere 82 = .ok (.bipush 6, 2) := by decide +kernel
theorem dX12_wordHere_84 : decode cX12_wordHere 84 = .ok (.ireturn, 1) := by decide +kernel
theorem dX12_wordHere_85 : decode cX12_wordHere 85 = .ok (.aload_n 0, 1) := by decide +kernel
theorem dX12_wordHere_86 : decode cX12_wordHere 86 = .ok (.ldc2_w 133, 3) := by decide +kernel
theorem dX12_wordHere_89 : decode cX12_wordHere 89 = .ok (.invokevirtual 98, 3) := by decide +kernel
theorem dX12_wordHere_92 : decode cX12_wordHere 92 = .ok (.ifCond .eq 8, 3) := by decide +kernel
theorem dX12_wordHere_95 : decode cX12_wordHere 95 = .ok (.bipush 7, 2) := by decide +kernel
theorem dX12_wordHere_97 : decode cX12_wordHere 97 = .ok (.goto 19, 3) := by decide +kernel
theorem dX12_wordHere_100 : decode cX12_wordHere 100 = .ok (.aload_n 0, 1) := by decide +kernel
theorem dX12_wordHere_101 : decode cX12_wordHere 101 = .ok (.ldc2_w 135, 3) := by decide +kernel
theorem dX12_wordHere_104 : decode cX12_wordHere 104 = .ok (.invokevirtual 98, 3) := by decide +kernel
theorem dX12_wordHere_107 : decode cX12_wordHere 107 = .ok (.ifCond .eq 8, 3) := by decide +kernel
theorem dX12_wordHere_110 : decode cX12_wordHere 110 = .ok (.bipush 8, 2) := by decide +kernel
theorem dX12_wordHere_112 : decode cX12_wordHere 112 = .ok (.goto 4, 3) := by decide +kernel
theorem dX12_wordHere_115 : decode cX12_wordHere 115 = .ok (.iconst (-1), 1) := by decide +kernel
theorem dX12_wordHere_116 : decode cX12_wordHere 116 = .ok (.ireturn, 1) := by decide +kernel
theorem dX12_puts_0 : decode cX12_puts 0 = .ok (.aload_n 0, 1) := by decide +kernel
theorem dX12_puts_1 : decode cX12_puts 1 = .ok (.getfield 13, 3) := by decide +kernel
theorem dX12_puts_4 : decode cX12_puts 4 = .ok (.sipush 400, 3) := by decide +kernel
theorem dX12_puts_7 : decode cX12_puts 7 = .ok (.aload_n 0, 1) := by decide +kernel
theorem dX12_puts_8 : decode cX12_puts 8 = .ok (.getfield 137, 3) := by decide +kernel
theorem dX12_puts_11 : decode cX12_puts 11 = .ok (.imul, 1) := by decide +kernel
theorem dX12_puts_12 : decode cX12_puts 12 = .ok (.aload_n 0, 1) := by decide +kernel
theorem dX12_puts_13 : decode cX12_puts 13 = .ok (.getfield 17, 3) := by decide +kernel
theorem dX12_puts_16 : decode cX12_puts 16 = .ok (.aload_n 0, 1) := by decide +kernel
theorem dX12_puts_17 : decode cX12_puts 17 = .ok (.getfield 137, 3) := by decide +kernel
theorem dX12_puts_20 : decode cX12_puts 20 = .ok (.iaload, 1) := by decide +kernel
theorem dX12_puts_21 : decode cX12_puts 21 = .ok (.iadd, 1) := by decide +kernel
theorem dX12_puts_22 : decode cX12_puts 22 = .ok (.iload_n 1, 1) := by decide +kernel
theorem dX12_puts_23 : decode cX12_puts 23 = .ok (.bipush 16, 2) := by decide +kernel
theorem dX12_puts_25 : decode cX12_puts 25 = .ok (.iload_n 2, 1) := by decide +kernel
theorem dX12_puts_26 : decode cX12_puts 26 = .ok (.imul, 1) := by decide +kernel
theorem dX12_puts_27 : decode cX12_puts 27 = .ok (.iadd, 1) := by decide +kernel
theorem dX12_puts_28 : decode cX12_puts 28 = .ok (.iastore, 1) := by decide +kernel
theorem dX12_puts_29 : decode cX12_puts 29 = .ok (.aload_n 0, 1) := by decide +kernel
theorem dX12_puts_30 : decode cX12_puts 30 = .ok (.getfield 17, 3) := by decide +kernel
theorem dX12_puts_33 : decode cX12_puts 33 = .ok (.aload_n 0, 1) := by decide +kernel
theorem dX12_puts_34 : decode cX12_puts 34 = .ok (.getfield 137, 3) := by decide +kernel
theorem dX12_puts_37 : decode cX12_puts 37 = .ok (.dup2, 1) := by decide +kernel
theorem dX12_puts_38 : decode cX12_puts 38 = .ok (.iaload, 1) := by decide +kernel
theorem dX12_puts_39 : decode cX12_puts 39 = .ok (.iconst 1, 1) := by decide +kernel
theorem dX12_puts_40 : decode cX12_puts 40 = .ok (.iadd, 1) := by decide +kernel
theorem dX12_puts_41 : decode cX12_puts 41 = .ok (.iastore, 1) := by decide +kernel
theorem dX12_puts_42 : decode cX12_puts 42 = .ok (.return_, 1) := by decide +kernel
set_option maxRecDepth 20000 in
theorem ggX12_makes_X12_fails : GoodIn wsX12_makes wsX12_fails := goodIn_r _ [6, 7, 8, 9, 10, 11, 12, 13, 14, 15, 16, 17, 18, 19, 20, 21, 22, 23, 24, 25, 26, 27, 28, 29, 30, 31, 32, 33, 34, 35, 36, 37, 38, 39, 40, 41, 42, 43, 44] (by decide +kernel) (by decide +kernel)
set_option maxRecDepth 20000 in
theorem gX12_makes_X12_fails : GoodIn wsX12_makes (wsV RX12 108 RX12 yX12_fails wsX12_fails) := goodIn_app (goodIn_of _ (by decide +kernel)) ggX12_makes_X12_fails
theorem dX12_makes_0 : decode cX12_makes 0 = .ok (.aload_n 0, 1) := by decide +kernel
theorem dX12_makes_1 : decode cX12_makes 1 = .ok (.getfield 140, 3) := by decide +kernel
theorem dX12_makes_4 : decode cX12_makes 4 = .ok (.bipush 60, 2) := by decide +kernel
theorem dX12_makes_6 : decode cX12_makes 6 = .ok (.if_icmp .ne 10, 3) := by decide +kernel
theorem dX12_makes_9 : decode cX12_makes 9 = .ok (.aload_n 0, 1) := by decide +kernel
theorem dX12_makes_10 : decode cX12_makes 10 = .ok (.iconst 3, 1) := by decide +kernel
theorem dX12_makes_11 : decode cX12_makes 11 = .ok (.iload_n 1, 1) := by decide +kernel
theorem dX12_makes_12 : decode cX12_makes 12 = .ok (.invokevirtual 108, 3) := by decide +kernel
theorem dX12_makes_15 : decode cX12_makes 15 = .ok (.ireturn, 1) := by decide +kernel
theorem dX12_makes_16 : decode cX12_makes 16 = .ok (.aload_n 0, 1) := by decide +kernel
theorem dX12_makes_17 : decode cX12_makes 17 = .ok (.dup, 1) := by decide +kernel
theorem dX12_makes_18 : decode cX12_makes 18 = .ok (.getfield 140, 3) := by decide +kernel
theorem dX12_makes_21 : decode cX12_makes 21 = .ok (.iconst 1, 1) := by decide +kernel
theorem dX12_makes_22 : decode cX12_makes 22 = .ok (.iadd, 1) := by decide +kernel
theorem dX12_makes_23 : decode cX12_makes 23 = .ok (.putfield 140, 3) := by decide +kernel
theorem dX12_makes_26 : decode cX12_makes 26 = .ok (.iconst 1, 1) := by decide +kernel
theorem dX12_makes_27 : decode cX12_makes 27 = .ok (.ireturn, 1) := by decide +kernel
set_option maxRecDepth 20000 in
theorem ggX12_opens_X12_fails : GoodIn wsX12_opens wsX12_fails := goodIn_r _ [9, 10, 11, 12, 13, 14, 15, 16, 17, 18, 19, 20, 21, 22, 23, 24, 25, 26, 27, 28, 29, 30, 31, 32, 33, 34, 35, 36, 37, 38, 39, 40, 41, 42, 43, 44, 45, 46, 47] (by decide +kernel) (by decide +kernel)
set_option maxRecDepth 20000 in
theorem gX12_opens_X12_fails : GoodIn wsX12_opens (wsV RX12 108 RX12 yX12_fails wsX12_fails) := goodIn_app (goodIn_of _ (by decide +kernel)) ggX12_opens_X12_fails
theorem dX12_opens_0 : decode cX12_opens 0 = .ok (.aload_n 0, 1) := by decide +kernel
theorem dX12_opens_1 : decode cX12_opens 1 = .ok (.getfield 143, 3) := by decide +kernel
theorem dX12_opens_4 : decode cX12_opens 4 = .ok (.bipush 10, 2) := by decide +kernel
theorem dX12_opens_6 : decode cX12_opens 6 = .ok (.if_icmp .ne 13, 3) := by decide +kernel
theorem dX12_opens_9 : decode cX12_opens 9 = .ok (.aload_n 0, 1) := by decide +kernel
theorem dX12_opens_10 : decode cX12_opens 10 = .ok (.iconst 2, 1) := by decide +kernel
theorem dX12_opens_11 : decode cX12_opens 11 = .ok (.aload_n 0, 1) := by decide +kernel
theorem dX12_opens_12 : decode cX12_opens 12 = .ok (.getfield 87, 3) := by decide +kernel
theorem dX12_opens_15 : decode cX12_opens 15 = .ok (.invokevirtual 108, 3) := by decide +kernel
theorem dX12_opens_18 : decode cX12_opens 18 = .ok (.ireturn, 1) := by decide +kernel
theorem dX12_opens_19 : decode cX12_opens 19 = .ok (.aload_n 0, 1) := by decide +kernel
theorem dX12_opens_20 : decode cX12_opens 20 = .ok (.dup, 1) := by decide +kernel
theorem dX12_opens_21 : decode cX12_opens 21 = .ok (.getfield 143, 3) := by decide +kernel
theorem dX12_opens_24 : decode cX12_opens 24 = .ok (.iconst 1, 1) := by decide +kernel
theorem dX12_opens_25 : decode cX12_opens 25 = .ok (.iadd, 1) := by decide +kernel
theorem dX12_opens_26 : decode cX12_opens 26 = .ok (.putfield 143, 3) := by decide +kernel
theorem dX12_opens_29 : decode cX12_opens 29 = .ok (.aload_n 0, 1) := by decide +kernel
theorem dX12_opens_30 : decode cX12_opens 30 = .ok (.getfield 35, 3) := by decide +kernel
theorem dX12_opens_33 : decode cX12_opens 33 = .ok (.aload_n 0, 1) := by decide +kernel
theorem dX12_opens_34 : decode cX12_opens 34 = .ok (.getfield 146, 3) := by decide +kernel
theorem dX12_opens_37 : decode cX12_opens 37 = .ok (.iload_n 1, 1) := by decide +kernel
theorem dX12_opens_38 : decode cX12_opens 38 = .ok (.iastore, 1) := by decide +kernel
theorem dX12_opens_39 : decode cX12_opens 39 = .ok (.aload_n 0, 1) := by decide +kernel
theorem dX12_opens_40 : decode cX12_opens 40 = .ok (.dup, 1) := by decide +kernel
theorem dX12_opens_41 : decode cX12_opens 41 = .ok (.getfield 146, 3) := by decide +kernel
theorem dX12_opens_44 : decode cX12_opens 44 = .ok (.iconst 1, 1) := by decide +kernel
theorem dX12_opens_45 : decode cX12_opens 45 = .ok (.iadd, 1) := by decide +kernel
theorem dX12_opens_46 : decode cX12_opens 46 = .ok (.putfield 146, 3) := by decide +kernel
theorem dX12_opens_49 : decode cX12_opens 49 = .ok (.iconst 1, 1) := by decide +kernel
theorem dX12_opens_50 : decode cX12_opens 50 = .ok (.ireturn, 1) := by decide +kernel
theorem dX12_strength_0 : decode cX12_strength 0 = .ok (.iload_n 0, 1) := by decide +kernel
theorem dX12_strength_1 : decode cX12_strength 1 = .ok (.bipush 13, 2) := by decide +kernel
theorem dX12_strength_3 : decode cX12_strength 3 = .ok (.if_icmp .ne 7, 3) := by decide +kernel
theorem dX12_strength_6 : decode cX12_strength 6 = .ok (.iconst 1, 1) := by decide +kernel
theorem dX12_strength_7 : decode cX12_strength 7 = .ok (.goto 24, 3) := by decide +kernel
theorem dX12_strength_10 : decode cX12_strength 10 = .ok (.iload_n 0, 1) := by decide +kernel
theorem dX12_strength_11 : decode cX12_strength 11 = .ok (.bipush 12, 2) := by decide +kernel
theorem dX12_strength_13 : decode cX12_strength 13 = .ok (.if_icmp .ne 7, 3) := by decide +kernel
theorem dX12_strength_16 : decode cX12_strength 16 = .ok (.iconst 2, 1) := by decide +kernel
theorem dX12_strength_17 : decode cX12_strength 17 = .ok (.goto 14, 3) := by decide +kernel
theorem dX12_strength_20 : decode cX12_strength 20 = .ok (.iload_n 0, 1) := by decide +kernel
theorem dX12_strength_21 : decode cX12_strength 21 = .ok (.bipush 11, 2) := by decide +kernel
theorem dX12_strength_23 : decode cX12_strength 23 = .ok (.if_icmp .ne 7, 3) := by decide +kernel
theorem dX12_strength_26 : decode cX12_strength 26 = .ok (.iconst 3, 1) := by decide +kernel
theorem dX12_strength_27 : decode cX12_strength 27 = .ok (.goto 4, 3) := by decide +kernel
theorem dX12_strength_30 : decode cX12_strength 30 = .ok (.iconst 0, 1) := by decide +kernel
theorem dX12_strength_31 : decode cX12_strength 31 = .ok (.ireturn, 1) := by decide +kernel
set_option maxRecDepth 20000 in
theorem ggX12_settles_X12_strength : GoodIn wsX12_settles wsX12_strength := goodIn_r _ [7] (by decide +kernel) (by decide +kernel)
set_option maxRecDepth 20000 in
theorem gX12_settles_X12_strength : GoodIn wsX12_settles (va_wsS RX12 149 yX12_strength wsX12_strength) := goodIn_app (goodIn_of _ (by decide +kernel)) ggX12_settles_X12_strength
set_option maxRecDepth 20000 in
theorem ggX12_settles_X12_puts : GoodIn wsX12_settles wsX12_puts := goodIn_r _ [11, 12, 13, 14, 15, 16, 17, 18, 19, 20, 21, 22, 23, 24, 25, 26, 27, 28, 29, 30, 31, 32, 33, 34, 35, 36, 37, 38, 39, 40, 41, 42, 43, 44, 45, 46, 47, 48, 49, 50, 51] (by decide +kernel) (by decide +kernel)
set_option maxRecDepth 20000 in
theorem gX12_settles_X12_puts : GoodIn wsX12_settles (wsV RX12 153 RX12 yX12_puts wsX12_puts) := goodIn_app (goodIn_of _ (by decide +kernel)) ggX12_settles_X12_puts
theorem dX12_settles_0 : decode cX12_settles 0 = .ok (.aload_n 0, 1) := by decide +kernel
theorem dX12_settles_1 : decode cX12_settles 1 = .ok (.getfield 146, 3) := by decide +kernel
theorem dX12_settles_4 : decode cX12_settles 4 = .ok (.ifCond .le 72, 3) := by decide +kernel
theorem dX12_settles_7 : decode cX12_settles 7 = .ok (.aload_n 0, 1) := by decide +kernel
theorem dX12_settles_8 : decode cX12_settles 8 = .ok (.getfield 35, 3) := by decide +kernel
theorem dX12_settles_11 : decode cX12_settles 11 = .ok (.aload_n 0, 1) := by decide +kernel
theorem dX12_settles_12 : decode cX12_settles 12 = .ok (.getfield 146, 3) := by decide +kernel
theorem dX12_settles_15 : decode cX12_settles 15 = .ok (.iconst 1, 1) := by decide +kernel
theorem dX12_settles_16 : decode cX12_settles 16 = .ok (.isub, 1) := by decide +kernel
theorem dX12_settles_17 : decode cX12_settles 17 = .ok (.iaload, 1) := by decide +kernel
theorem dX12_settles_18 : decode cX12_settles 18 = .ok (.invokestatic 149, 3) := by decide +kernel
theorem dX12_settles_21 : decode cX12_settles 21 = .ok (.iload_n 1, 1) := by decide +kernel
theorem dX12_settles_22 : decode cX12_settles 22 = .ok (.if_icmp .lt 54, 3) := by decide +kernel
theorem dX12_settles_25 : decode cX12_settles 25 = .ok (.aload_n 0, 1) := by decide +kernel
theorem dX12_settles_26 : decode cX12_settles 26 = .ok (.dup, 1) := by decide +kernel
theorem dX12_settles_27 : decode cX12_settles 27 = .ok (.getfield 146, 3) := by decide +kernel
theorem dX12_settles_30 : decode cX12_settles 30 = .ok (.iconst 1, 1) := by decide +kernel
theorem dX12_settles_31 : decode cX12_settles 31 = .ok (.isub, 1) := by decide +kernel
theorem dX12_settles_32 : decode cX12_settles 32 = .ok (.putfield 146, 3) := by decide +kernel
theorem dX12_settles_35 : decode cX12_settles 35 = .ok (.aload_n 0, 1) := by decide +kernel
theorem dX12_settles_36 : decode cX12_settles 36 = .ok (.aload_n 0, 1) := by decide +kernel
theorem dX12_settles_37 : decode cX12_settles 37 = .ok (.getfield 35, 3) := by decide +kernel
theorem dX12_settles_40 : decode cX12_settles 40 = .ok (.aload_n 0, 1) := by decide +kernel
theorem dX12_settles_41 : decode cX12_settles 41 = .ok (.getfield 146, 3) := by decide +kernel
theorem dX12_settles_44 : decode cX12_settles 44 = .ok (.iaload, 1) := by decide +kernel
theorem dX12_settles_45 : decode cX12_settles 45 = .ok (.iconst 0, 1) := by decide +kernel
theorem dX12_settles_46 : decode cX12_settles 46 = .ok (.invokevirtual 153, 3) := by decide +kernel
theorem dX12_settles_49 : decode cX12_settles 49 = .ok (.aload_n 0, 1) := by decide +kernel
theorem dX12_settles_50 : decode cX12_settles 50 = .ok (.getfield 35, 3) := by decide +kernel
theorem dX12_settles_53 : decode cX12_settles 53 = .ok (.aload_n 0, 1) := by decide +kernel
theorem dX12_settles_54 : decode cX12_settles 54 = .ok (.getfield 146, 3) := by decide +kernel
theorem dX12_settles_57 : decode cX12_settles 57 = .ok (.iaload, 1) := by decide +kernel
theorem dX12_settles_58 : decode cX12_settles 58 = .ok (.bipush 11, 2) := by decide +kernel
theorem dX12_settles_60 : decode cX12_settles 60 = .ok (.if_icmp .ne (-60), 3) := by decide +kernel
theorem dX12_settles_63 : decode cX12_settles 63 = .ok (.aload_n 0, 1) := by decide +kernel
theorem dX12_settles_64 : decode cX12_settles 64 = .ok (.dup, 1) := by decide +kernel
theorem dX12_settles_65 : decode cX12_settles 65 = .ok (.getfield 143, 3) := by decide +kernel
theorem dX12_settles_68 : decode cX12_settles 68 = .ok (.iconst 1, 1) := by decide +kernel
theorem dX12_settles_69 : decode cX12_settles 69 = .ok (.isub, 1) := by decide +kernel
theorem dX12_settles_70 : decode cX12_settles 70 = .ok (.putfield 143, 3) := by decide +kernel
theorem dX12_settles_73 : decode cX12_settles 73 = .ok (.goto (-73), 3) := by decide +kernel
theorem dX12_settles_76 : decode cX12_settles 76 = .ok (.return_, 1) := by decide +kernel
set_option maxRecDepth 20000 in
theorem ggX12_value_X12_see : GoodIn wsX12_value wsX12_see := goodIn_r _ [8, 1, 9, 10, 64, 65, 66, 67, 68, 69, 70, 71, 72, 73, 74, 75, 76, 77, 78, 79, 80, 81, 82, 83, 84, 85, 86, 87, 88, 89, 90, 91, 92, 93, 94, 95, 96, 97, 98, 99, 100] (by decide +kernel) (by decide +kernel)
set_option maxRecDepth 20000 in
theorem gX12_value_X12_see : GoodIn wsX12_value (wsV RX12 90 RX12 yX12_see wsX12_see) := goodIn_app (goodIn_of _ (by decide +kernel)) ggX12_value_X12_see
set_option maxRecDepth 20000 in
theorem ggX12_value_X12_isDigit : GoodIn wsX12_value wsX12_isDigit := goodIn_r _ [14, 9, 10, 64, 65, 66, 67, 68, 69, 70, 71, 72, 73, 74, 75, 76, 77, 78, 79, 80, 81, 82, 83, 84, 85, 86, 87, 88, 89, 90, 91, 92, 93, 94, 95, 96, 97, 98, 99, 100] (by decide +kernel) (by decide +kernel)
set_option maxRecDepth 20000 in
theorem gX12_value_X12_isDigit : GoodIn wsX12_value (wsV RX12 105 RX12 yX12_isDigit wsX12_isDigit) := goodIn_app (goodIn_of _ (by decide +kernel)) ggX12_value_X12_isDigit
set_option maxRecDepth 20000 in
theorem ggX12_value_X12_numberHere : GoodIn wsX12_value wsX12_numberHere := goodIn_r _ [18, 1, 10, 3, 4, 5, 6, 7, 8, 9, 11, 12, 13, 14, 19, 20, 21, 22, 23, 24, 25, 26, 64, 65, 66, 67, 68, 69, 70, 71, 72, 73, 74, 75, 76, 77, 78, 79, 80, 81, 82, 83, 84, 85, 86, 87, 88, 89, 90, 91, 92, 93, 94, 95, 96, 97, 98, 99, 100] (by decide +kernel) (by decide +kernel)
set_option maxRecDepth 20000 in
theorem gX12_value_X12_numberHere : GoodIn wsX12_value (wsV RX12 158 RX12 yX12_numberHere wsX12_numberHere) := goodIn_app (goodIn_of _ (by decide +kernel)) ggX12_value_X12_numberHere
set_option maxRecDepth 20000 in
theorem ggX12_value_X12_makes : GoodIn wsX12_value wsX12_makes := goodIn_r _ [30, 31, 19, 20, 21, 7, 22, 23, 64, 65, 66, 67, 68, 69, 70, 71, 72, 73, 74, 75, 76, 77, 78, 79, 80, 81, 82, 83, 84, 85, 86, 87, 88, 89, 90, 91, 92, 93, 94, 95, 96, 97, 98, 99, 100] (by decide +kernel) (by decide +kernel)
set_option maxRecDepth 20000 in
theorem gX12_value_X12_makes : GoodIn wsX12_value (wsV RX12 161 RX12 yX12_makes wsX12_makes) := goodIn_app (goodIn_of _ (by decide +kernel)) ggX12_value_X12_makes
set_option maxRecDepth 20000 in
theorem ggX12_value_X12_puts : GoodIn wsX12_value wsX12_puts := goodIn_r _ [35, 36, 37, 38, 64, 65, 66, 67, 68, 69, 70, 71, 72, 73, 74, 75, 76, 77, 78, 79, 80, 81, 82, 83, 84, 85, 86, 87, 88, 89, 90, 91, 92, 93, 94, 95, 96, 97, 98, 99, 100] (by decide +kernel) (by decide +kernel)
set_option maxRecDepth 20000 in
theorem gX12_value_X12_puts : GoodIn wsX12_value (wsV RX12 153 RX12 yX12_puts wsX12_puts) := goodIn_app (goodIn_of _ (by decide +kernel)) ggX12_value_X12_puts
set_option maxRecDepth 20000 in
theorem ggX12_value_X12_wordHere : GoodIn wsX12_value wsX12_wordHere := goodIn_r _ [42, 43, 44, 45, 46, 47, 48, 49, 50, 51, 52, 53, 54, 7, 55, 1, 10, 4, 5, 6, 8, 9, 56, 57, 58, 59, 64, 65, 66, 67, 68, 69, 70, 71, 72, 73, 74, 75, 76, 77, 78, 79, 80, 81, 82, 83, 84, 85, 86, 87, 88, 89, 90, 91, 92, 93, 94, 95, 96, 97, 98, 99, 100] (by decide +kernel) (by decide +kernel)
set_option maxRecDepth 20000 in
theorem gX12_value_X12_wordHere : GoodIn wsX12_value (wsV RX12 164 RX12 yX12_wordHere wsX12_wordHere) := goodIn_app (goodIn_of _ (by decide +kernel)) ggX12_value_X12_wordHere
set_option maxRecDepth 20000 in
theorem ggX12_value_X12_fails : GoodIn wsX12_value wsX12_fails := goodIn_r _ [22, 23, 64, 65, 66, 67, 68, 69, 70, 71, 72, 73, 74, 75, 76, 77, 78, 79, 80, 81, 82, 83, 84, 85, 86, 87, 88, 89, 90, 91, 92, 93, 94, 95, 96, 97, 98, 99, 100] (by decide +kernel) (by decide +kernel)
set_option maxRecDepth 20000 in
theorem gX12_value_X12_fails : GoodIn wsX12_value (wsV RX12 108 RX12 yX12_fails wsX12_fails) := goodIn_app (goodIn_of _ (by decide +kernel)) ggX12_value_X12_fails
set_option maxRecDepth 20000 in
theorem ggX12_value_X12_passWord : GoodIn wsX12_value wsX12_passWord := goodIn_r _ [63, 1, 56, 57, 58, 7, 59, 9, 10, 64, 65, 66, 67, 68, 69, 70, 71, 72, 73, 74, 75, 76, 77, 78, 79, 80, 81, 82, 83, 84, 85, 86, 87, 88, 89, 90, 91, 92, 93, 94, 95, 96, 97, 98, 99, 100] (by decide +kernel) (by decide +kernel)
set_option maxRecDepth 20000 in
theorem gX12_value_X12_passWord : GoodIn wsX12_value (wsV RX12 102 RX12 yX12_passWord wsX12_passWord) := goodIn_app (goodIn_of _ (by decide +kernel)) ggX12_value_X12_passWord
theorem dX12_value_0 : decode cX12_value 0 = .ok (.aload_n 0, 1) := by decide +kernel
theorem dX12_value_1 : decode cX12_value 1 = .ok (.invokevirtual 90, 3) := by decide +kernel
theorem dX12_value_4 : decode cX12_value 4 = .ok (.pop, 1) := by decide +kernel
theorem dX12_value_5 : decode cX12_value 5 = .ok (.aload_n 0, 1) := by decide +kernel
theorem dX12_value_6 : decode cX12_value 6 = .ok (.getfield 87, 3) := by decide +kernel
theorem dX12_value_9 : decode cX12_value 9 = .ok (.istore_n 1, 1) := by decide +kernel
theorem dX12_value_10 : decode cX12_value 10 = .ok (.aload_n 0, 1) := by decide +kernel
theorem dX12_value_11 : decode cX12_value 11 = .ok (.aload_n 0, 1) := by decide +kernel
theorem dX12_value_12 : decode cX12_value 12 = .ok (.getfield 87, 3) := by decide +kernel
theorem dX12_value_15 : decode cX12_value 15 = .ok (.invokevirtual 105, 3) := by decide +kernel
theorem dX12_value_18 : decode cX12_value 18 = .ok (.ifCond .eq 34, 3) := by decide +kernel
theorem dX12_value_21 : decode cX12_value 21 = .ok (.aload_n 0, 1) := by decide +kernel
theorem dX12_value_22 : decode cX12_value 22 = .ok (.iconst 0, 1) := by decide +kernel
theorem dX12_value_23 : decode cX12_value 23 = .ok (.ldc 157, 2) := by decide +kernel
theorem dX12_value_25 : decode cX12_value 25 = .ok (.invokevirtual 158, 3) := by decide +kernel
theorem dX12_value_28 : decode cX12_value 28 = .ok (.ifCond .eq 11, 3) := by decide +kernel
theorem dX12_value_31 : decode cX12_value 31 = .ok (.aload_n 0, 1) := by decide +kernel
theorem dX12_value_32 : decode cX12_value 32 = .ok (.iload_n 1, 1) := by decide +kernel
theorem dX12_value_33 : decode cX12_value 33 = .ok (.invokevirtual 161, 3) := by decide +kernel
theorem dX12_value_36 : decode cX12_value 36 = .ok (.ifCond .ne 5, 3) := by decide +kernel
theorem dX12_value_39 : decode cX12_value 39 = .ok (.iconst 0, 1) := by decide +kernel
theorem dX12_value_40 : decode cX12_value 40 = .ok (.ireturn, 1) := by decide +kernel
theorem dX12_value_41 : decode cX12_value 41 = .ok (.aload_n 0, 1) := by decide +kernel
theorem dX12_value_42 : decode cX12_value 42 = .ok (.iconst 0, 1) := by decide +kernel
theorem dX12_value_43 : decode cX12_value 43 = .ok (.aload_n 0, 1) := by decide +kernel
theorem dX12_value_44 : decode cX12_value 44 = .ok (.getfield 112, 3) := by decide +kernel
theorem dX12_value_47 : decode cX12_value 47 = .ok (.invokevirtual 153, 3) := by decide +kernel
theorem dX12_value_50 : decode cX12_value 50 = .ok (.iconst 1, 1) := by decide +kernel
theorem dX12_value_51 : decode cX12_value 51 = .ok (.ireturn, 1) := by decide +kernel
theorem dX12_value_52 : decode cX12_value 52 = .ok (.aload_n 0, 1) := by decide +kernel
theorem dX12_value_53 : decode cX12_value 53 = .ok (.invokevirtual 164, 3) := by decide +kernel
theorem dX12_value_56 : decode cX12_value 56 = .ok (.istore_n 2, 1) := by decide +kernel
theorem dX12_value_57 : decode cX12_value 57 = .ok (.iload_n 2, 1) := by decide +kernel
theorem dX12_value_58 : decode cX12_value 58 = .ok (.ifCond .ge 10, 3) := by decide +kernel
theorem dX12_value_61 : decode cX12_value 61 = .ok (.aload_n 0, 1) := by decide +kernel
theorem dX12_value_62 : decode cX12_value 62 = .ok (.iconst 0, 1) := by decide +kernel
theorem dX12_value_63 : decode cX12_value 63 = .ok (.iload_n 1, 1) := by decide +kernel
theorem dX12_value_64 : decode cX12_value 64 = .ok (.invokevirtual 108, 3) := by decide +kernel
theorem dX12_value_67 : decode cX12_value 67 = .ok (.ireturn, 1) := by decide +kernel
theorem dX12_value_68 : decode cX12_value 68 = .ok (.aload_n 0, 1) := by decide +kernel
theorem dX12_value_69 : decode cX12_value 69 = .ok (.iload_n 1, 1) := by decide +kernel
theorem dX12_value_70 : decode cX12_value 70 = .ok (.invokevirtual 161, 3) := by decide +kernel
theorem dX12_value_73 : decode cX12_value 73 = .ok (.ifCond .ne 5, 3) := by decide +kernel
theorem dX12_value_76 : decode cX12_value 76 = .ok (.iconst 0, 1) := by decide +kernel
theorem dX12_value_77 : decode cX12_value 77 = .ok (.ireturn, 1) := by decide +kernel
theorem dX12_value_78 : decode cX12_value 78 = .ok (.aload_n 0, 1) := by decide +kernel
theorem dX12_value_79 : decode cX12_value 79 = .ok (.invokevirtual 102, 3) := by decide +kernel
theorem dX12_value_82 : decode cX12_value 82 = .ok (.aload_n 0, 1) := by decide +kernel
theorem dX12_value_83 : decode cX12_value 83 = .ok (.iconst 1, 1) := by decide +kernel
theorem dX12_value_84 : decode cX12_value 84 = .ok (.iload_n 2, 1) := by decide +kernel
theorem dX12_value_85 : decode cX12_value 85 = .ok (.invokevirtual 153, 3) := by decide +kernel
theorem dX12_value_88 : decode cX12_value 88 = .ok (.iconst 1, 1) := by decide +kernel
theorem dX12_value_89 : decode cX12_value 89 = .ok (.ireturn, 1) := by decide +kernel
set_option maxRecDepth 20000 in
theorem ggX12_term_X12_value : GoodIn wsX12_term wsX12_value := goodIn_r _ [7, 2, 8, 9, 10, 11, 12, 6, 13, 14, 1, 15, 16, 17, 18, 19, 20, 21, 22, 23, 24, 25, 26, 27, 28, 29, 30, 31, 32, 33, 34, 35, 36, 37, 38, 39, 40, 41, 42, 43, 44, 45, 46, 47, 48, 49, 50, 51, 52, 53, 54, 55, 56, 57, 58, 59, 60, 61, 62, 63, 64, 65, 66, 67, 68, 69, 70, 71, 72, 73, 74, 75, 76, 77, 78, 79, 80, 81, 82, 83, 84, 85, 86, 87, 88, 89, 90, 91, 92, 93, 94, 95, 96, 97, 98, 99, 100, 101, 102, 103, 104] (by decide +kernel) (by decide +kernel)
set_option maxRecDepth 20000 in
theorem gX12_term_X12_value : GoodIn wsX12_term (wsV RX12 167 RX12 yX12_value wsX12_value) := goodIn_app (goodIn_of _ (by decide +kernel)) ggX12_term_X12_value
set_option maxRecDepth 20000 in
theorem ggX12_term_X12_see : GoodIn wsX12_term wsX12_see := goodIn_r _ [13, 2, 14, 1, 68, 69, 70, 71, 72, 73, 74, 75, 76, 77, 78, 79, 80, 81, 82, 83, 84, 85, 86, 87, 88, 89, 90, 91, 92, 93, 94, 95, 96, 97, 98, 99, 100, 101, 102, 103, 104] (by decide +kernel) (by decide +kernel)
set_option maxRecDepth 20000 in
theorem gX12_term_X12_see : GoodIn wsX12_term (wsV RX12 90 RX12 yX12_see wsX12_see) := goodIn_app (goodIn_of _ (by decide +kernel)) ggX12_term_X12_see
set_option maxRecDepth 20000 in
theorem ggX12_term_X12_puts : GoodIn wsX12_term wsX12_puts := goodIn_r _ [39, 40, 41, 42, 68, 69, 70, 71, 72, 73, 74, 75, 76, 77, 78, 79, 80, 81, 82, 83, 84, 85, 86, 87, 88, 89, 90, 91, 92, 93, 94, 95, 96, 97, 98, 99, 100, 101, 102, 103, 104] (by decide +kernel) (by decide +kernel)
set_option maxRecDepth 20000 in
theorem gX12_term_X12_puts : GoodIn wsX12_term (wsV RX12 153 RX12 yX12_puts wsX12_puts) := goodIn_app (goodIn_of _ (by decide +kernel)) ggX12_term_X12_puts
