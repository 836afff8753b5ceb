theorem dX5_behind_0 : decode cX5_behind 0 = .ok (.aload_n 0, 1) := by decide +kernel
theorem dX5_behind_1 : decode cX5_behind 1 = .ok (.iload_n 2, 1) := by decide +kernel
theorem dX5_behind_2 : decode cX5_behind 2 = .ok (.iload 4, 2) := by decide +kernel
theorem dX5_behind_4 : decode cX5_behind 4 = .ok (.invokevirtual 74, 3) := by decide +kernel
theorem dX5_behind_7 : decode cX5_behind 7 = .ok (.ifCond .ne 20, 3) := by decide +kernel
theorem dX5_behind_10 : decode cX5_behind 10 = .ok (.aload_n 0, 1) := by decide +kernel
theorem dX5_behind_11 : decode cX5_behind 11 = .ok (.getfield 18, 3) := by decide +kernel
theorem dX5_behind_14 : decode cX5_behind 14 = .ok (.iload_n 3, 1) := by decide +kernel
theorem dX5_behind_15 : decode cX5_behind 15 = .ok (.bipush 8, 2) := by decide +kernel
theorem dX5_behind_17 : decode cX5_behind 17 = .ok (.idiv, 1) := by decide +kernel
theorem dX5_behind_18 : decode cX5_behind 18 = .ok (.iconst 1, 1) := by decide +kernel
theorem dX5_behind_19 : decode cX5_behind 19 = .ok (.isub, 1) := by decide +kernel
theorem dX5_behind_20 : decode cX5_behind 20 = .ok (.iload_n 2, 1) := by decide +kernel
theorem dX5_behind_21 : decode cX5_behind 21 = .ok (.invokevirtual 78, 3) := by decide +kernel
theorem dX5_behind_24 : decode cX5_behind 24 = .ok (.ifCond .eq 17, 3) := by decide +kernel
theorem dX5_behind_27 : decode cX5_behind 27 = .ok (.aload_n 0, 1) := by decide +kernel
theorem dX5_behind_28 : decode cX5_behind 28 = .ok (.iload_n 1, 1) := by decide +kernel
theorem dX5_behind_29 : decode cX5_behind 29 = .ok (.iload_n 2, 1) := by decide +kernel
theorem dX5_behind_30 : decode cX5_behind 30 = .ok (.iload_n 3, 1) := by decide +kernel
theorem dX5_behind_31 : decode cX5_behind 31 = .ok (.iload 4, 2) := by decide +kernel
theorem dX5_behind_33 : decode cX5_behind 33 = .ok (.iload 5, 2) := by decide +kernel
theorem dX5_behind_35 : decode cX5_behind 35 = .ok (.iload 6, 2) := by decide +kernel
theorem dX5_behind_37 : decode cX5_behind 37 = .ok (.invokevirtual 51, 3) := by decide +kernel
theorem dX5_behind_40 : decode cX5_behind 40 = .ok (.ireturn, 1) := by decide +kernel
theorem dX5_behind_41 : decode cX5_behind 41 = .ok (.iload 5, 2) := by decide +kernel
theorem dX5_behind_43 : decode cX5_behind 43 = .ok (.ifCond .ne 12, 3) := by decide +kernel
theorem dX5_behind_46 : decode cX5_behind 46 = .ok (.iload 6, 2) := by decide +kernel
theorem dX5_behind_48 : decode cX5_behind 48 = .ok (.ifCond .ne 7, 3) := by decide +kernel
theorem dX5_behind_51 : decode cX5_behind 51 = .ok (.iconst 1, 1) := by decide +kernel
theorem dX5_behind_52 : decode cX5_behind 52 = .ok (.goto 4, 3) := by decide +kernel
theorem dX5_behind_55 : decode cX5_behind 55 = .ok (.iconst 0, 1) := by decide +kernel
theorem dX5_behind_56 : decode cX5_behind 56 = .ok (.ireturn, 1) := by decide +kernel
theorem dX5_mayThrow_0 : decode cX5_mayThrow 0 = .ok (.iload_n 2, 1) := by decide +kernel
theorem dX5_mayThrow_1 : decode cX5_mayThrow 1 = .ok (.bipush 8, 2) := by decide +kernel
theorem dX5_mayThrow_3 : decode cX5_mayThrow 3 = .ok (.if_icmp .lt 19, 3) := by decide +kernel
theorem dX5_mayThrow_6 : decode cX5_mayThrow 6 = .ok (.iload_n 1, 1) := by decide +kernel
theorem dX5_mayThrow_7 : decode cX5_mayThrow 7 = .ok (.aload_n 0, 1) := by decide +kernel
theorem dX5_mayThrow_8 : decode cX5_mayThrow 8 = .ok (.getfield 28, 3) := by decide +kernel
theorem dX5_mayThrow_11 : decode cX5_mayThrow 11 = .ok (.iadd, 1) := by decide +kernel
theorem dX5_mayThrow_12 : decode cX5_mayThrow 12 = .ok (.sipush 200, 3) := by decide +kernel
theorem dX5_mayThrow_15 : decode cX5_mayThrow 15 = .ok (.if_icmp .gt 7, 3) := by decide +kernel
theorem dX5_mayThrow_18 : decode cX5_mayThrow 18 = .ok (.iconst 1, 1) := by decide +kernel
theorem dX5_mayThrow_19 : decode cX5_mayThrow 19 = .ok (.goto 4, 3) := by decide +kernel
theorem dX5_mayThrow_22 : decode cX5_mayThrow 22 = .ok (.iconst 0, 1) := by decide +kernel
theorem dX5_mayThrow_23 : decode cX5_mayThrow 23 = .ok (.ireturn, 1) := by decide +kernel
theorem dX5_keyOf_0 : decode cX5_keyOf 0 = .ok (.iload_n 0, 1) := by decide +kernel
theorem dX5_keyOf_1 : decode cX5_keyOf 1 = .ok (.bipush 8, 2) := by decide +kernel
theorem dX5_keyOf_3 : decode cX5_keyOf 3 = .ok (.ishl, 1) := by decide +kernel
theorem dX5_keyOf_4 : decode cX5_keyOf 4 = .ok (.iload_n 1, 1) := by decide +kernel
theorem dX5_keyOf_5 : decode cX5_keyOf 5 = .ok (.ior, 1) := by decide +kernel
theorem dX5_keyOf_6 : decode cX5_keyOf 6 = .ok (.istore 6, 2) := by decide +kernel
theorem dX5_keyOf_8 : decode cX5_keyOf 8 = .ok (.iload 6, 2) := by decide +kernel
theorem dX5_keyOf_10 : decode cX5_keyOf 10 = .ok (.bipush 6, 2) := by decide +kernel
theorem dX5_keyOf_12 : decode cX5_keyOf 12 = .ok (.ishl, 1) := by decide +kernel
theorem dX5_keyOf_13 : decode cX5_keyOf 13 = .ok (.iload_n 2, 1) := by decide +kernel
theorem dX5_keyOf_14 : decode cX5_keyOf 14 = .ok (.ior, 1) := by decide +kernel
theorem dX5_keyOf_15 : decode cX5_keyOf 15 = .ok (.istore 6, 2) := by decide +kernel
theorem dX5_keyOf_17 : decode cX5_keyOf 17 = .ok (.iload 6, 2) := by decide +kernel
theorem dX5_keyOf_19 : decode cX5_keyOf 19 = .ok (.bipush 6, 2) := by decide +kernel
theorem dX5_keyOf_21 : decode cX5_keyOf 21 = .ok (.ishl, 1) := by decide +kernel
theorem dX5_keyOf_22 : decode cX5_keyOf 22 = .ok (.iload_n 3, 1) := by decide +kernel
theorem dX5_keyOf_23 : decode cX5_keyOf 23 = .ok (.ior, 1) := by decide +kernel
theorem dX5_keyOf_24 : decode cX5_keyOf 24 = .ok (.istore 6, 2) := by decide +kernel
theorem dX5_keyOf_26 : decode cX5_keyOf 26 = .ok (.iload 6, 2) := by decide +kernel
theorem dX5_keyOf_28 : decode cX5_keyOf 28 = .ok (.iconst 5, 1) := by decide +kernel
theorem dX5_keyOf_29 : decode cX5_keyOf 29 = .ok (.ishl, 1) := by decide +kernel
theorem dX5_keyOf_30 : decode cX5_keyOf 30 = .ok (.iload 4, 2) := by decide +kernel
theorem dX5_keyOf_32 : decode cX5_keyOf 32 = .ok (.iconst 1, 1) := by decide +kernel
theorem dX5_keyOf_33 : decode cX5_keyOf 33 = .ok (.ishl, 1) := by decide +kernel
theorem dX5_keyOf_34 : decode cX5_keyOf 34 = .ok (.ior, 1) := by decide +kernel
theorem dX5_keyOf_35 : decode cX5_keyOf 35 = .ok (.iload 5, 2) := by decide +kernel
theorem dX5_keyOf_37 : decode cX5_keyOf 37 = .ok (.ifCond .eq 7, 3) := by decide +kernel
theorem dX5_keyOf_40 : decode cX5_keyOf 40 = .ok (.iconst 1, 1) := by decide +kernel
theorem dX5_keyOf_41 : decode cX5_keyOf 41 = .ok (.goto 4, 3) := by decide +kernel
theorem dX5_keyOf_44 : decode cX5_keyOf 44 = .ok (.iconst 0, 1) := by decide +kernel
theorem dX5_keyOf_45 : decode cX5_keyOf 45 = .ok (.ior, 1) := by decide +kernel
theorem dX5_keyOf_46 : decode cX5_keyOf 46 = .ok (.ireturn, 1) := by decide +kernel
theorem dX6_init_0 : decode cX6_init 0 = .ok (.aload_n 0, 1) := by decide +kernel
theorem dX6_init_1 : decode cX6_init 1 = .ok (.invokespecial 3, 3) := by decide +kernel
theorem dX6_init_4 : decode cX6_init 4 = .ok (.aload_n 0, 1) := by decide +kernel
theorem dX6_init_5 : decode cX6_init 5 = .ok (.iconst 1, 1) := by decide +kernel
theorem dX6_init_6 : decode cX6_init 6 = .ok (.putfield 9, 3) := by decide +kernel
theorem dX6_init_9 : decode cX6_init 9 = .ok (.aload_n 0, 1) := by decide +kernel
theorem dX6_init_10 : decode cX6_init 10 = .ok (.iconst (-1), 1) := by decide +kernel
theorem dX6_init_11 : decode cX6_init 11 = .ok (.putfield 15, 3) := by decide +kernel
theorem dX6_init_14 : decode cX6_init 14 = .ok (.aload_n 0, 1) := by decide +kernel
theorem dX6_init_15 : decode cX6_init 15 = .ok (.iconst 2, 1) := by decide +kernel
theorem dX6_init_16 : decode cX6_init 16 = .ok (.newarray .int, 2) := by decide +kernel
theorem dX6_init_18 : decode cX6_init 18 = .ok (.putfield 18, 3) := by decide +kernel
theorem dX6_init_21 : decode cX6_init 21 = .ok (.aload_n 0, 1) := by decide +kernel
theorem dX6_init_22 : decode cX6_init 22 = .ok (.iconst 2, 1) := by decide +kernel
theorem dX6_init_23 : decode cX6_init 23 = .ok (.newarray .int, 2) := by decide +kernel
theorem dX6_init_25 : decode cX6_init 25 = .ok (.dup, 1) := by decide +kernel
theorem dX6_init_26 : decode cX6_init 26 = .ok (.iconst 0, 1) := by decide +kernel
theorem dX6_init_27 : decode cX6_init 27 = .ok (.iconst (-1), 1) := by decide +kernel
theorem dX6_init_28 : decode cX6_init 28 = .ok (.iastore, 1) := by decide +kernel
theorem dX6_init_29 : decode cX6_init 29 = .ok (.dup, 1) := by decide +kernel
theorem dX6_init_30 : decode cX6_init 30 = .ok (.iconst 1, 1) := by decide +kernel
theorem dX6_init_31 : decode cX6_init 31 = .ok (.iconst (-1), 1) := by decide +kernel
theorem dX6_init_32 : decode cX6_init 32 = .ok (.iastore, 1) := by decide +kernel
theorem dX6_init_33 : decode cX6_init 33 = .ok (.putfield 22, 3) := by decide +kernel
theorem dX6_init_36 : decode cX6_init 36 = .ok (.aload_n 0, 1) := by decide +kernel
theorem dX6_init_37 : decode cX6_init 37 = .ok (.iconst 2, 1) := by decide +kernel
theorem dX6_init_38 : decode cX6_init 38 = .ok (.newarray .int, 2) := by decide +kernel
theorem dX6_init_40 : decode cX6_init 40 = .ok (.putfield 25, 3) := by decide +kernel
theorem dX6_init_43 : decode cX6_init 43 = .ok (.return_, 1) := by decide +kernel
theorem dX6_copyFrom_0 : decode cX6_copyFrom 0 = .ok (.aload_n 0, 1) := by decide +kernel
theorem dX6_copyFrom_1 : decode cX6_copyFrom 1 = .ok (.aload_n 1, 1) := by decide +kernel
theorem dX6_copyFrom_2 : decode cX6_copyFrom 2 = .ok (.getfield 28, 3) := by decide +kernel
theorem dX6_copyFrom_5 : decode cX6_copyFrom 5 = .ok (.putfield 28, 3) := by decide +kernel
theorem dX6_copyFrom_8 : decode cX6_copyFrom 8 = .ok (.aload_n 0, 1) := by decide +kernel
theorem dX6_copyFrom_9 : decode cX6_copyFrom 9 = .ok (.aload_n 1, 1) := by decide +kernel
theorem dX6_copyFrom_10 : decode cX6_copyFrom 10 = .ok (.getfield 9, 3) := by decide +kernel
theorem dX6_copyFrom_13 : decode cX6_copyFrom 13 = .ok (.putfield 9, 3) := by decide +kernel
theorem dX6_copyFrom_16 : decode cX6_copyFrom 16 = .ok (.aload_n 0, 1) := by decide +kernel
theorem dX6_copyFrom_17 : decode cX6_copyFrom 17 = .ok (.aload_n 1, 1) := by decide +kernel
theorem dX6_copyFrom_18 : decode cX6_copyFrom 18 = .ok (.getfield 32, 3) := by decide +kernel
theorem dX6_copyFrom_21 : decode cX6_copyFrom 21 = .ok (.putfield 32, 3) := by decide +kernel
theorem dX6_copyFrom_24 : decode cX6_copyFrom 24 = .ok (.aload_n 0, 1) := by decide +kernel
theorem dX6_copyFrom_25 : decode cX6_copyFrom 25 = .ok (.aload_n 1, 1) := by decide +kernel
theorem dX6_copyFrom_26 : decode cX6_copyFrom 26 = .ok (.getfield 35, 3) := by decide +kernel
theorem dX6_copyFrom_29 : decode cX6_copyFrom 29 = .ok (.putfield 35, 3) := by decide +kernel
theorem dX6_copyFrom_32 : decode cX6_copyFrom 32 = .ok (.aload_n 0, 1) := by decide +kernel
theorem dX6_copyFrom_33 : decode cX6_copyFrom 33 = .ok (.aload_n 1, 1) := by decide +kernel
theorem dX6_copyFrom_34 : decode cX6_copyFrom 34 = .ok (.getfield 38, 3) := by decide +kernel
theorem dX6_copyFrom_37 : decode cX6_copyFrom 37 = .ok (.putfield 38, 3) := by decide +kernel
theorem dX6_copyFrom_40 : decode cX6_copyFrom 40 = .ok (.aload_n 0, 1) := by decide +kernel
theorem dX6_copyFrom_41 : decode cX6_copyFrom 41 = .ok (.aload_n 1, 1) := by decide +kernel
theorem dX6_copyFrom_42 : decode cX6_copyFrom 42 = .ok (.getfield 41, 3) := by decide +kernel
theorem dX6_copyFrom_45 : decode cX6_copyFrom 45 = .ok (.putfield 41, 3) := by decide +kernel
theorem dX6_copyFrom_48 : decode cX6_copyFrom 48 = .ok (.aload_n 0, 1) := by decide +kernel
theorem dX6_copyFrom_49 : decode cX6_copyFrom 49 = .ok (.aload_n 1, 1) := by decide +kernel
theorem dX6_copyFrom_50 : decode cX6_copyFrom 50 = .ok (.getfield 15, 3) := by decide +kernel
theorem dX6_copyFrom_53 : decode cX6_copyFrom 53 = .ok (.putfield 15, 3) := by decide +kernel
theorem dX6_copyFrom_56 : decode cX6_copyFrom 56 = .ok (.aload_n 1, 1) := by decide +kernel
theorem dX6_copyFrom_57 : decode cX6_copyFrom 57 = .ok (.getfield 18, 3) := by decide +kernel
theorem dX6_copyFrom_60 : decode cX6_copyFrom 60 = .ok (.iconst 0, 1) := by decide +kernel
theorem dX6_copyFrom_61 : decode cX6_copyFrom 61 = .ok (.aload_n 0, 1) := by decide +kernel
theorem dX6_copyFrom_62 : decode cX6_copyFrom 62 = .ok (.getfield 18, 3) := by decide +kernel
theorem dX6_copyFrom_65 : decode cX6_copyFrom 65 = .ok (.iconst 0, 1) := by decide +kernel
theorem dX6_copyFrom_66 : decode cX6_copyFrom 66 = .ok (.iconst 2, 1) := by decide +kernel
theorem dX6_copyFrom_67 : decode cX6_copyFrom 67 = .ok (.invokestatic 44, 3) := by decide +kernel
theorem dX6_copyFrom_70 : decode cX6_copyFrom 70 = .ok (.aload_n 1, 1) := by decide +kernel
theorem dX6_copyFrom_71 : decode cX6_copyFrom 71 = .ok (.getfield 22, 3) := by decide +kernel
theorem dX6_copyFrom_74 : decode cX6_copyFrom 74 = .ok (.iconst 0, 1) := by decide +kernel
theorem dX6_copyFrom_75 : decode cX6_copyFrom 75 = .ok (.aload_n 0, 1) := by decide +kernel
theorem dX6_copyFrom_76 : decode cX6_copyFrom 76 = .ok (.getfield 22, 3) := by decide +kernel
theorem dX6_copyFrom_79 : decode cX6_copyFrom 79 = .ok (.iconst 0, 1) := by decide +kernel
theorem dX6_copyFrom_80 : decode cX6_copyFrom 80 = .ok (.iconst 2, 1) := by decide +kernel
theorem dX6_copyFrom_81 : decode cX6_copyFrom 81 = .ok (.invokestatic 44, 3) := by decide +kernel
theorem dX6_copyFrom_84 : decode cX6_copyFrom 84 = .ok (.aload_n 1, 1) := by decide +kernel
theorem dX6_copyFrom_85 : decode cX6_copyFrom 85 = .ok (.getfield 25, 3) := by decide +kernel
theorem dX6_copyFrom_88 : decode cX6_copyFrom 88 = .ok (.iconst 0, 1) := by decide +kernel
theorem dX6_copyFrom_89 : decode cX6_copyFrom 89 = .ok (.aload_n 0, 1) := by decide +kernel
theorem dX6_copyFrom_90 : decode cX6_copyFrom 90 = .ok (.getfield 25, 3) := by decide +kernel
theorem dX6_copyFrom_93 : decode cX6_copyFrom 93 = .ok (.iconst 0, 1) := by decide +kernel
theorem dX6_copyFrom_94 : decode cX6_copyFrom 94 = .ok (.iconst 2, 1) := by decide +kernel
theorem dX6_copyFrom_95 : decode cX6_copyFrom 95 = .ok (.invokestatic 44, 3) := by decide +kernel
theorem dX6_copyFrom_98 : decode cX6_copyFrom 98 = .ok (.return_, 1) := by decide +kernel
set_option maxRecDepth 20000 in
theorem ggX6_clear_X6_forgetWords : GoodIn wsX6_clear wsX6_forgetWords := goodIn_r _ [13, 14, 15, 16, 17, 18, 19, 20, 21, 22, 23, 24, 25, 26, 27] (by decide +kernel) (by decide +kernel)
set_option maxRecDepth 20000 in
theorem gX6_clear_X6_forgetWords : GoodIn wsX6_clear (wsV RX6 55 RX6 yX6_forgetWords wsX6_forgetWords) := goodIn_app (goodIn_of _ (by decide +kernel)) ggX6_clear_X6_forgetWords
theorem dX6_clear_0 : decode cX6_clear 0 = .ok (.aload_n 0, 1) := by decide +kernel
theorem dX6_clear_1 : decode cX6_clear 1 = .ok (.iconst 0, 1) := by decide +kernel
theorem dX6_clear_2 : decode cX6_clear 2 = .ok (.putfield 28, 3) := by decide +kernel
theorem dX6_clear_5 : decode cX6_clear 5 = .ok (.aload_n 0, 1) := by decide +kernel
theorem dX6_clear_6 : decode cX6_clear 6 = .ok (.iconst 0, 1) := by decide +kernel
theorem dX6_clear_7 : decode cX6_clear 7 = .ok (.putfield 41, 3) := by decide +kernel
theorem dX6_clear_10 : decode cX6_clear 10 = .ok (.aload_n 1, 1) := by decide +kernel
theorem dX6_clear_11 : decode cX6_clear 11 = .ok (.getfield 50, 3) := by decide +kernel
theorem dX6_clear_14 : decode cX6_clear 14 = .ok (.iconst 0, 1) := by decide +kernel
theorem dX6_clear_15 : decode cX6_clear 15 = .ok (.aload_n 0, 1) := by decide +kernel
theorem dX6_clear_16 : decode cX6_clear 16 = .ok (.getfield 18, 3) := by decide +kernel
theorem dX6_clear_19 : decode cX6_clear 19 = .ok (.iconst 0, 1) := by decide +kernel
theorem dX6_clear_20 : decode cX6_clear 20 = .ok (.iconst 2, 1) := by decide +kernel
theorem dX6_clear_21 : decode cX6_clear 21 = .ok (.invokestatic 44, 3) := by decide +kernel
theorem dX6_clear_24 : decode cX6_clear 24 = .ok (.aload_n 0, 1) := by decide +kernel
theorem dX6_clear_25 : decode cX6_clear 25 = .ok (.invokevirtual 55, 3) := by decide +kernel
theorem dX6_clear_28 : decode cX6_clear 28 = .ok (.return_, 1) := by decide +kernel
theorem dX6_forgetWords_0 : decode cX6_forgetWords 0 = .ok (.aload_n 0, 1) := by decide +kernel
theorem dX6_forgetWords_1 : decode cX6_forgetWords 1 = .ok (.iconst 0, 1) := by decide +kernel
theorem dX6_forgetWords_2 : decode cX6_forgetWords 2 = .ok (.putfield 38, 3) := by decide +kernel
theorem dX6_forgetWords_5 : decode cX6_forgetWords 5 = .ok (.aload_n 0, 1) := by decide +kernel
theorem dX6_forgetWords_6 : decode cX6_forgetWords 6 = .ok (.iconst (-1), 1) := by decide +kernel
theorem dX6_forgetWords_7 : decode cX6_forgetWords 7 = .ok (.putfield 15, 3) := by decide +kernel
theorem dX6_forgetWords_10 : decode cX6_forgetWords 10 = .ok (.iconst 0, 1) := by decide +kernel
theorem dX6_forgetWords_11 : decode cX6_forgetWords 11 = .ok (.istore_n 1, 1) := by decide +kernel
theorem dX6_forgetWords_12 : decode cX6_forgetWords 12 = .ok (.iload_n 1, 1) := by decide +kernel
theorem dX6_forgetWords_13 : decode cX6_forgetWords 13 = .ok (.iconst 2, 1) := by decide +kernel
theorem dX6_forgetWords_14 : decode cX6_forgetWords 14 = .ok (.if_icmp .ge 23, 3) := by decide +kernel
theorem dX6_forgetWords_17 : decode cX6_forgetWords 17 = .ok (.aload_n 0, 1) := by decide +kernel
theorem dX6_forgetWords_18 : decode cX6_forgetWords 18 = .ok (.getfield 22, 3) := by decide +kernel
theorem dX6_forgetWords_21 : decode cX6_forgetWords 21 = .ok (.iload_n 1, 1) := by decide +kernel
theorem dX6_forgetWords_22 : decode cX6_forgetWords 22 = .ok (.iconst (-1), 1) := by decide +kernel
theorem dX6_forgetWords_23 : decode cX6_forgetWords 23 = .ok (.iastore, 1) := by decide +kernel
theorem dX6_forgetWords_24 : decode cX6_forgetWords 24 = .ok (.aload_n 0, 1) := by decide +kernel
theorem dX6_forgetWords_25 : decode cX6_forgetWords 25 = .ok (.getfield 25, 3) := by decide +kernel
theorem dX6_forgetWords_28 : decode cX6_forgetWords 28 = .ok (.iload_n 1, 1) := by decide +kernel
theorem dX6_forgetWords_29 : decode cX6_forgetWords 29 = .ok (.iconst 0, 1) := by decide +kernel
theorem dX6_forgetWords_30 : decode cX6_forgetWords 30 = .ok (.iastore, 1) := by decide +kernel
theorem dX6_forgetWords_31 : decode cX6_forgetWords 31 = .ok (.iinc 1 1, 3) := by decide +kernel
theorem dX6_forgetWords_34 : decode cX6_forgetWords 34 = .ok (.goto (-22), 3) := by decide +kernel
theorem dX6_forgetWords_37 : decode cX6_forgetWords 37 = .ok (.return_, 1) := by decide +kernel
set_option maxRecDepth 20000 in
theorem ggX6_start_X6_forgetWords : GoodIn wsX6_start wsX6_forgetWords := goodIn_r _ [9, 10, 11, 12, 13, 49, 50, 51, 52, 53, 54, 55, 56, 57, 58] (by decide +kernel) (by decide +kernel)
set_option maxRecDepth 20000 in
theorem gX6_start_X6_forgetWords : GoodIn wsX6_start (wsV RX6 55 RX6 yX6_forgetWords wsX6_forgetWords) := goodIn_app (goodIn_of _ (by decide +kernel)) ggX6_start_X6_forgetWords
set_option maxRecDepth 20000 in
theorem ggX6_start_X1_verseOf : GoodIn wsX6_start wsX1_verseOf := goodIn_r _ [18, 19, 20, 21, 22, 17, 23, 24, 59, 60, 61, 62, 63, 64] (by decide +kernel) (by decide +kernel)
set_option maxRecDepth 20000 in
theorem gX6_start_X1_verseOf : GoodIn wsX6_start (wsV RX6 58 RX1 yX1_verseOf wsX1_verseOf) := goodIn_app (goodIn_of _ (by decide +kernel)) ggX6_start_X1_verseOf
set_option maxRecDepth 20000 in
theorem ggX6_start_X6_endIfStuck : GoodIn wsX6_start wsX6_endIfStuck := goodIn_r _ [28, 12, 4, 3, 29, 30, 31, 8, 32, 1, 33, 2, 34, 35, 36, 17, 37, 38, 39, 40, 41, 42, 43, 44, 45, 46, 47, 48, 11, 49, 50, 51, 52, 53, 54, 55, 56, 57, 58, 59, 60, 61, 62, 63, 64] (by decide +kernel) (by decide +kernel)
set_option maxRecDepth 20000 in
theorem gX6_start_X6_endIfStuck : GoodIn wsX6_start (wsV RX6 62 RX6 yX6_endIfStuck wsX6_endIfStuck) := goodIn_app (goodIn_of _ (by decide +kernel)) ggX6_start_X6_endIfStuck
theorem dX6_start_0 : decode cX6_start 0 = .ok (.aload_n 0, 1) := by decide +kernel
theorem dX6_start_1 : decode cX6_start 1 = .ok (.invokevirtual 55, 3) := by decide +kernel
theorem dX6_start_4 : decode cX6_start 4 = .ok (.aload_n 0, 1) := by decide +kernel
theorem dX6_start_5 : decode cX6_start 5 = .ok (.iconst 1, 1) := by decide +kernel
theorem dX6_start_6 : decode cX6_start 6 = .ok (.putfield 28, 3) := by decide +kernel
theorem dX6_start_9 : decode cX6_start 9 = .ok (.aload_n 0, 1) := by decide +kernel
theorem dX6_start_10 : decode cX6_start 10 = .ok (.aload_n 1, 1) := by decide +kernel
theorem dX6_start_11 : decode cX6_start 11 = .ok (.iload_n 2, 1) := by decide +kernel
theorem dX6_start_12 : decode cX6_start 12 = .ok (.invokevirtual 58, 3) := by decide +kernel
theorem dX6_start_15 : decode cX6_start 15 = .ok (.putfield 9, 3) := by decide +kernel
theorem dX6_start_18 : decode cX6_start 18 = .ok (.aload_n 0, 1) := by decide +kernel
theorem dX6_start_19 : decode cX6_start 19 = .ok (.aload_n 0, 1) := by decide +kernel
theorem dX6_start_20 : decode cX6_start 20 = .ok (.getfield 9, 3) := by decide +kernel
theorem dX6_start_23 : decode cX6_start 23 = .ok (.putfield 32, 3) := by decide +kernel
theorem dX6_start_26 : decode cX6_start 26 = .ok (.aload_n 0, 1) := by decide +kernel
theorem dX6_start_27 : decode cX6_start 27 = .ok (.iload_n 3, 1) := by decide +kernel
theorem dX6_start_28 : decode cX6_start 28 = .ok (.ifCond .ne 7, 3) := by decide +kernel
theorem dX6_start_31 : decode cX6_start 31 = .ok (.iconst 0, 1) := by decide +kernel
theorem dX6_start_32 : decode cX6_start 32 = .ok (.goto 4, 3) := by decide +kernel
theorem dX6_start_35 : decode cX6_start 35 = .ok (.iconst 1, 1) := by decide +kernel
theorem dX6_start_36 : decode cX6_start 36 = .ok (.putfield 35, 3) := by decide +kernel
theorem dX6_start_39 : decode cX6_start 39 = .ok (.aload_n 0, 1) := by decide +kernel
theorem dX6_start_40 : decode cX6_start 40 = .ok (.aload_n 1, 1) := by decide +kernel
theorem dX6_start_41 : decode cX6_start 41 = .ok (.invokevirtual 62, 3) := by decide +kernel
theorem dX6_start_44 : decode cX6_start 44 = .ok (.return_, 1) := by decide +kernel
theorem dX6_myPurse_0 : decode cX6_myPurse 0 = .ok (.aload_n 0, 1) := by decide +kernel
theorem dX6_myPurse_1 : decode cX6_myPurse 1 = .ok (.getfield 18, 3) := by decide +kernel
theorem dX6_myPurse_4 : decode cX6_myPurse 4 = .ok (.aload_n 0, 1) := by decide +kernel
theorem dX6_myPurse_5 : decode cX6_myPurse 5 = .ok (.getfield 35, 3) := by decide +kernel
theorem dX6_myPurse_8 : decode cX6_myPurse 8 = .ok (.iaload, 1) := by decide +kernel
theorem dX6_myPurse_9 : decode cX6_myPurse 9 = .ok (.ireturn, 1) := by decide +kernel
theorem dX6_theirPurse_0 : decode cX6_theirPurse 0 = .ok (.aload_n 0, 1) := by decide +kernel
theorem dX6_theirPurse_1 : decode cX6_theirPurse 1 = .ok (.getfield 18, 3) := by decide +kernel
theorem dX6_theirPurse_4 : decode cX6_theirPurse 4 = .ok (.iconst 1, 1) := by decide +kernel
theorem dX6_theirPurse_5 : decode cX6_theirPurse 5 = .ok (.aload_n 0, 1) := by decide +kernel
theorem dX6_theirPurse_6 : decode cX6_theirPurse 6 = .ok (.getfield 35, 3) := by decide +kernel
theorem dX6_theirPurse_9 : decode cX6_theirPurse 9 = .ok (.isub, 1) := by decide +kernel
theorem dX6_theirPurse_10 : decode cX6_theirPurse 10 = .ok (.iaload, 1) := by decide +kernel
theorem dX6_theirPurse_11 : decode cX6_theirPurse 11 = .ok (.ireturn, 1) := by decide +kernel
theorem dX6_lasts_0 : decode cX6_lasts 0 = .ok (.bipush 8, 2) := by decide +kernel
theorem dX6_lasts_2 : decode cX6_lasts 2 = .ok (.aload_n 0, 1) := by decide +kernel
theorem dX6_lasts_3 : decode cX6_lasts 3 = .ok (.getfield 22, 3) := by decide +kernel
theorem dX6_lasts_6 : decode cX6_lasts 6 = .ok (.aload_n 0, 1) := by decide +kernel
theorem dX6_lasts_7 : decode cX6_lasts 7 = .ok (.getfield 35, 3) := by decide +kernel
theorem dX6_lasts_10 : decode cX6_lasts 10 = .ok (.iaload, 1) := by decide +kernel
theorem dX6_lasts_11 : decode cX6_lasts 11 = .ok (.iconst 1, 1) := by decide +kernel
theorem dX6_lasts_12 : decode cX6_lasts 12 = .ok (.iadd, 1) := by decide +kernel
theorem dX6_lasts_13 : decode cX6_lasts 13 = .ok (.imul, 1) := by decide +kernel
theorem dX6_lasts_14 : decode cX6_lasts 14 = .ok (.aload_n 0, 1) := by decide +kernel
theorem dX6_lasts_15 : decode cX6_lasts 15 = .ok (.getfield 22, 3) := by decide +kernel
theorem dX6_lasts_18 : decode cX6_lasts 18 = .ok (.iconst 1, 1) := by decide +kernel
theorem dX6_lasts_19 : decode cX6_lasts 19 = .ok (.aload_n 0, 1) := by decide +kernel
theorem dX6_lasts_20 : decode cX6_lasts 20 = .ok (.getfield 35, 3) := by decide +kernel
theorem dX6_lasts_23 : decode cX6_lasts 23 = .ok (.isub, 1) := by decide +kernel
theorem dX6_lasts_24 : decode cX6_lasts 24 = .ok (.iaload, 1) := by decide +kernel
theorem dX6_lasts_25 : decode cX6_lasts 25 = .ok (.iadd, 1) := by decide +kernel
theorem dX6_lasts_26 : decode cX6_lasts 26 = .ok (.iconst 1, 1) := by decide +kernel
theorem dX6_lasts_27 : decode cX6_lasts 27 = .ok (.iadd, 1) := by decide +kernel
theorem dX6_lasts_28 : decode cX6_lasts 28 = .ok (.ireturn, 1) := by decide +kernel
set_option maxRecDepth 20000 in
theorem ggX6_maySay_X1_cost : GoodIn wsX6_maySay wsX1_cost := goodIn_r _ [9, 10, 11, 12, 23, 24, 25, 26, 27, 28] (by decide +kernel) (by decide +kernel)
set_option maxRecDepth 20000 in
theorem gX6_maySay_X1_cost : GoodIn wsX6_maySay (wsV RX6 66 RX1 yX1_cost wsX1_cost) := goodIn_app (goodIn_of _ (by decide +kernel)) ggX6_maySay_X1_cost
theorem dX6_maySay_0 : decode cX6_maySay 0 = .ok (.aload_n 0, 1) := by decide +kernel
theorem dX6_maySay_1 : decode cX6_maySay 1 = .ok (.getfield 28, 3) := by decide +kernel
theorem dX6_maySay_4 : decode cX6_maySay 4 = .ok (.ifCond .eq 28, 3) := by decide +kernel
theorem dX6_maySay_7 : decode cX6_maySay 7 = .ok (.aload_n 1, 1) := by decide +kernel
theorem dX6_maySay_8 : decode cX6_maySay 8 = .ok (.iload_n 2, 1) := by decide +kernel
theorem dX6_maySay_9 : decode cX6_maySay 9 = .ok (.aload_n 0, 1) := by decide +kernel
theorem dX6_maySay_10 : decode cX6_maySay 10 = .ok (.getfield 22, 3) := by decide +kernel
theorem dX6_maySay_13 : decode cX6_maySay 13 = .ok (.aload_n 0, 1) := by decide +kernel
theorem dX6_maySay_14 : decode cX6_maySay 14 = .ok (.getfield 35, 3) := by decide +kernel
theorem dX6_maySay_17 : decode cX6_maySay 17 = .ok (.iaload, 1) := by decide +kernel
theorem dX6_maySay_18 : decode cX6_maySay 18 = .ok (.invokevirtual 66, 3) := by decide +kernel
theorem dX6_maySay_21 : decode cX6_maySay 21 = .ok (.aload_n 0, 1) := by decide +kernel
theorem dX6_maySay_22 : decode cX6_maySay 22 = .ok (.getfield 32, 3) := by decide +kernel
theorem dX6_maySay_25 : decode cX6_maySay 25 = .ok (.if_icmp .gt 7, 3) := by decide +kernel
theorem dX6_maySay_28 : decode cX6_maySay 28 = .ok (.iconst 1, 1) := by decide +kernel
theorem dX6_maySay_29 : decode cX6_maySay 29 = .ok (.goto 4, 3) := by decide +kernel
theorem dX6_maySay_32 : decode cX6_maySay 32 = .ok (.iconst 0, 1) := by decide +kernel
theorem dX6_maySay_33 : decode cX6_maySay 33 = .ok (.ireturn, 1) := by decide +kernel
theorem dX6_mayThrow_0 : decode cX6_mayThrow 0 = .ok (.aload_n 0, 1) := by decide +kernel
theorem dX6_mayThrow_1 : decode cX6_mayThrow 1 = .ok (.getfield 28, 3) := by decide +kernel
theorem dX6_mayThrow_4 : decode cX6_mayThrow 4 = .ok (.ifCond .eq 34, 3) := by decide +kernel
theorem dX6_mayThrow_7 : decode cX6_mayThrow 7 = .ok (.aload_n 0, 1) := by decide +kernel
theorem dX6_mayThrow_8 : decode cX6_mayThrow 8 = .ok (.getfield 18, 3) := by decide +kernel
theorem dX6_mayThrow_11 : decode cX6_mayThrow 11 = .ok (.aload_n 0, 1) := by decide +kernel
theorem dX6_mayThrow_12 : decode cX6_mayThrow 12 = .ok (.getfield 35, 3) := by decide +kernel
theorem dX6_mayThrow_15 : decode cX6_mayThrow 15 = .ok (.iaload, 1) := by decide +kernel
theorem dX6_mayThrow_16 : decode cX6_mayThrow 16 = .ok (.ifCond .le 22, 3) := by decide +kernel
theorem dX6_mayThrow_19 : decode cX6_mayThrow 19 = .ok (.aload_n 0, 1) := by decide +kernel
theorem dX6_mayThrow_20 : decode cX6_mayThrow 20 = .ok (.getfield 32, 3) := by decide +kernel
theorem dX6_mayThrow_23 : decode cX6_mayThrow 23 = .ok (.aload_n 0, 1) := by decide +kernel
theorem dX6_mayThrow_24 : decode cX6_mayThrow 24 = .ok (.getfield 9, 3) := by decide +kernel
theorem dX6_mayThrow_27 : decode cX6_mayThrow 27 = .ok (.iadd, 1) := by decide +kernel
theorem dX6_mayThrow_28 : decode cX6_mayThrow 28 = .ok (.sipush 200, 3) := by decide +kernel
theorem dX6_mayThrow_31 : decode cX6_mayThrow 31 = .ok (.if_icmp .gt 7, 3) := by decide +kernel
theorem dX6_mayThrow_34 : decode cX6_mayThrow 34 = .ok (.iconst 1, 1) := by decide +kernel
theorem dX6_mayThrow_35 : decode cX6_mayThrow 35 = .ok (.goto 4, 3) := by decide +kernel
theorem dX6_mayThrow_38 : decode cX6_mayThrow 38 = .ok (.iconst 0, 1) := by decide +kernel
theorem dX6_mayThrow_39 : decode cX6_mayThrow 39 = .ok (.ireturn, 1) := by decide +kernel
set_option maxRecDepth 20000 in
theorem ggX6_say_X1_cost : GoodIn wsX6_say wsX1_cost := goodIn_r _ [10, 11, 12, 13, 46, 47, 48, 49, 50, 51] (by decide +kernel) (by decide +kernel)
set_option maxRecDepth 20000 in
theorem gX6_say_X1_cost : GoodIn wsX6_say (wsV RX6 66 RX1 yX1_cost wsX1_cost) := goodIn_app (goodIn_of _ (by decide +kernel)) ggX6_say_X1_cost
set_option maxRecDepth 20000 in
theorem ggX6_say_X6_endIfStuck : GoodIn wsX6_say wsX6_endIfStuck := goodIn_r _ [18, 2, 3, 1, 19, 20, 21, 17, 22, 23, 24, 25, 26, 27, 28, 9, 29, 11, 30, 7, 8, 10, 12, 13, 31, 32, 33, 34, 35, 36, 37, 38, 39, 40, 41, 42, 43, 44, 45, 46, 47, 48, 49, 50, 51] (by decide +kernel) (by decide +kernel)
set_option maxRecDepth 20000 in
theorem gX6_say_X6_endIfStuck : GoodIn wsX6_say (wsV RX6 62 RX6 yX6_endIfStuck wsX6_endIfStuck) := goodIn_app (goodIn_of _ (by decide +kernel)) ggX6_say_X6_endIfStuck
theorem dX6_say_0 : decode cX6_say 0 = .ok (.aload_n 0, 1) := by decide +kernel
theorem dX6_say_1 : decode cX6_say 1 = .ok (.dup, 1) := by decide +kernel
theorem dX6_say_2 : decode cX6_say 2 = .ok (.getfield 32, 3) := by decide +kernel
theorem dX6_say_5 : decode cX6_say 5 = .ok (.aload_n 1, 1) := by decide +kernel
theorem dX6_say_6 : decode cX6_say 6 = .ok (.iload_n 2, 1) := by decide +kernel
theorem dX6_say_7 : decode cX6_say 7 = .ok (.aload_n 0, 1) := by decide +kernel
theorem dX6_say_8 : decode cX6_say 8 = .ok (.getfield 22, 3) := by decide +kernel
theorem dX6_say_11 : decode cX6_say 11 = .ok (.aload_n 0, 1) := by decide +kernel
theorem dX6_say_12 : decode cX6_say 12 = .ok (.getfield 35, 3) := by decide +kernel
theorem dX6_say_15 : decode cX6_say 15 = .ok (.iaload, 1) := by decide +kernel
theorem dX6_say_16 : decode cX6_say 16 = .ok (.invokevirtual 66, 3) := by decide +kernel
theorem dX6_say_19 : decode cX6_say 19 = .ok (.isub, 1) := by decide +kernel
theorem dX6_say_20 : decode cX6_say 20 = .ok (.putfield 32, 3) := by decide +kernel
theorem dX6_say_23 : decode cX6_say 23 = .ok (.aload_n 0, 1) := by decide +kernel
theorem dX6_say_24 : decode cX6_say 24 = .ok (.getfield 22, 3) := by decide +kernel
theorem dX6_say_27 : decode cX6_say 27 = .ok (.aload_n 0, 1) := by decide +kernel
theorem dX6_say_28 : decode cX6_say 28 = .ok (.getfield 35, 3) := by decide +kernel
theorem dX6_say_31 : decode cX6_say 31 = .ok (.iload_n 2, 1) := by decide +kernel
theorem dX6_say_32 : decode cX6_say 32 = .ok (.iastore, 1) := by decide +kernel
theorem dX6_say_33 : decode cX6_say 33 = .ok (.aload_n 0, 1) := by decide +kernel
theorem dX6_say_34 : decode cX6_say 34 = .ok (.getfield 25, 3) := by decide +kernel
theorem dX6_say_37 : decode cX6_say 37 = .ok (.aload_n 0, 1) := by decide +kernel
theorem dX6_say_38 : decode cX6_say 38 = .ok (.getfield 35, 3) := by decide +kernel
theorem dX6_say_41 : decode cX6_say 41 = .ok (.dup2, 1) := by decide +kernel
theorem dX6_say_42 : decode cX6_say 42 = .ok (.iaload, 1) := by decide +kernel
theorem dX6_say_43 : decode cX6_say 43 = .ok (.iconst 1, 1) := by decide +kernel
theorem dX6_say_44 : decode cX6_say 44 = .ok (.iadd, 1) := by decide +kernel
theorem dX6_say_45 : decode cX6_say 45 = .ok (.iastore, 1) := by decide +kernel
theorem dX6_say_46 : decode cX6_say 46 = .ok (.aload_n 0, 1) := by decide +kernel
theorem dX6_say_47 : decode cX6_say 47 = .ok (.dup, 1) := by decide +kernel
theorem dX6_say_48 : decode cX6_say 48 = .ok (.getfield 38, 3) := by decide +kernel
theorem dX6_say_51 : decode cX6_say 51 = .ok (.iconst 1, 1) := by decide +kernel
theorem dX6_say_52 : decode cX6_say 52 = .ok (.iadd, 1) := by decide +kernel
theorem dX6_say_53 : decode cX6_say 53 = .ok (.putfield 38, 3) := by decide +kernel
theorem dX6_say_56 : decode cX6_say 56 = .ok (.aload_n 0, 1) := by decide +kernel
theorem dX6_say_57 : decode cX6_say 57 = .ok (.iconst 1, 1) := by decide +kernel
theorem dX6_say_58 : decode cX6_say 58 = .ok (.aload_n 0, 1) := by decide +kernel
theorem dX6_say_59 : decode cX6_say 59 = .ok (.getfield 35, 3) := by decide +kernel
theorem dX6_say_62 : decode cX6_say 62 = .ok (.isub, 1) := by decide +kernel
theorem dX6_say_63 : decode cX6_say 63 = .ok (.putfield 35, 3) := by decide +kernel
theorem dX6_say_66 : decode cX6_say 66 = .ok (.aload_n 0, 1) := by decide +kernel
theorem dX6_say_67 : decode cX6_say 67 = .ok (.aload_n 1, 1) := by decide +kernel
theorem dX6_say_68 : decode cX6_say 68 = .ok (.invokevirtual 62, 3) := by decide +kernel
theorem dX6_say_71 : decode cX6_say 71 = .ok (.return_, 1) := by decide +kernel
set_option maxRecDepth 20000 in
theorem ggX6_throwPenny_X6_endIfStuck : GoodIn wsX6_throwPenny wsX6_endIfStuck := goodIn_r _ [11, 12, 2, 4, 13, 14, 15, 10, 16, 17, 1, 5, 18, 19, 20, 21, 22, 23, 24, 25, 26, 27, 28, 29, 30, 31, 32, 33, 34, 35, 36, 37, 38, 39, 40, 41, 42, 43, 44, 45, 46, 47, 48, 49, 50] (by decide +kernel) (by decide +kernel)
set_option maxRecDepth 20000 in
theorem gX6_throwPenny_X6_endIfStuck : GoodIn wsX6_throwPenny (wsV RX6 62 RX6 yX6_endIfStuck wsX6_endIfStuck) := goodIn_app (goodIn_of _ (by decide +kernel)) ggX6_throwPenny_X6_endIfStuck
theorem dX6_throwPenny_0 : decode cX6_throwPenny 0 = .ok (.aload_n 0, 1) := by decide +kernel
theorem dX6_throwPenny_1 : decode cX6_throwPenny 1 = .ok (.getfield 18, 3) := by decide +kernel
theorem dX6_throwPenny_4 : decode cX6_throwPenny 4 = .ok (.aload_n 0, 1) := by decide +kernel
theorem dX6_throwPenny_5 : decode cX6_throwPenny 5 = .ok (.getfield 35, 3) := by decide +kernel
theorem dX6_throwPenny_8 : decode cX6_throwPenny 8 = .ok (.dup2, 1) := by decide +kernel
theorem dX6_throwPenny_9 : decode cX6_throwPenny 9 = .ok (.iaload, 1) := by decide +kernel
theorem dX6_throwPenny_10 : decode cX6_throwPenny 10 = .ok (.iconst 1, 1) := by decide +kernel
theorem dX6_throwPenny_11 : decode cX6_throwPenny 11 = .ok (.isub, 1) := by decide +kernel
theorem dX6_throwPenny_12 : decode cX6_throwPenny 12 = .ok (.iastore, 1) := by decide +kernel
theorem dX6_throwPenny_13 : decode cX6_throwPenny 13 = .ok (.aload_n 0, 1) := by decide +kernel
theorem dX6_throwPenny_14 : decode cX6_throwPenny 14 = .ok (.dup, 1) := by decide +kernel
theorem dX6_throwPenny_15 : decode cX6_throwPenny 15 = .ok (.getfield 41, 3) := by decide +kernel
theorem dX6_throwPenny_18 : decode cX6_throwPenny 18 = .ok (.iconst 1, 1) := by decide +kernel
theorem dX6_throwPenny_19 : decode cX6_throwPenny 19 = .ok (.iadd, 1) := by decide +kernel
theorem dX6_throwPenny_20 : decode cX6_throwPenny 20 = .ok (.putfield 41, 3) := by decide +kernel
theorem dX6_throwPenny_23 : decode cX6_throwPenny 23 = .ok (.aload_n 0, 1) := by decide +kernel
theorem dX6_throwPenny_24 : decode cX6_throwPenny 24 = .ok (.dup, 1) := by decide +kernel
theorem dX6_throwPenny_25 : decode cX6_throwPenny 25 = .ok (.getfield 32, 3) := by decide +kernel
theorem dX6_throwPenny_28 : decode cX6_throwPenny 28 = .ok (.aload_n 0, 1) := by decide +kernel
theorem dX6_throwPenny_29 : decode cX6_throwPenny 29 = .ok (.getfield 9, 3) := by decide +kernel
theorem dX6_throwPenny_32 : decode cX6_throwPenny 32 = .ok (.iadd, 1) := by decide +kernel
theorem dX6_throwPenny_33 : decode cX6_throwPenny 33 = .ok (.putfield 32, 3) := by decide +kernel
theorem dX6_throwPenny_36 : decode cX6_throwPenny 36 = .ok (.aload_n 0, 1) := by decide +kernel
theorem dX6_throwPenny_37 : decode cX6_throwPenny 37 = .ok (.dup, 1) := by decide +kernel
theorem dX6_throwPenny_38 : decode cX6_throwPenny 38 = .ok (.getfield 38, 3) := by decide +kernel
theorem dX6_throwPenny_41 : decode cX6_throwPenny 41 = .ok (.iconst 1, 1) := by decide +kernel
theorem dX6_throwPenny_42 : decode cX6_throwPenny 42 = .ok (.iadd, 1) := by decide +kernel
theorem dX6_throwPenny_43 : decode cX6_throwPenny 43 = .ok (.putfield 38, 3) := by decide +kernel
theorem dX6_throwPenny_46 : decode cX6_throwPenny 46 = .ok (.aload_n 0, 1) := by decide +kernel
theorem dX6_throwPenny_47 : decode cX6_throwPenny 47 = .ok (.aload_n 1, 1) := by decide +kernel
theorem dX6_throwPenny_48 : decode cX6_throwPenny 48 = .ok (.invokevirtual 62, 3) := by decide +kernel
theorem dX6_throwPenny_51 : decode cX6_throwPenny 51 = .ok (.return_, 1) := by decide +kernel
set_option maxRecDepth 20000 in
theorem ggX6_beStill_X6_finish : GoodIn wsX6_beStill wsX6_finish := goodIn_r _ [6, 7, 8, 9, 10, 11, 12, 13, 14, 15, 16, 17, 18, 19] (by decide +kernel) (by decide +kernel)
set_option maxRecDepth 20000 in
theorem gX6_beStill_X6_finish : GoodIn wsX6_beStill (wsV RX6 70 RX6 yX6_finish wsX6_finish) := goodIn_app (goodIn_of _ (by decide +kernel)) ggX6_beStill_X6_finish
theorem dX6_beStill_0 : decode cX6_beStill 0 = .ok (.aload_n 0, 1) := by decide +kernel
theorem dX6_beStill_1 : decode cX6_beStill 1 = .ok (.dup, 1) := by decide +kernel
theorem dX6_beStill_2 : decode cX6_beStill 2 = .ok (.getfield 38, 3) := by decide +kernel
theorem dX6_beStill_5 : decode cX6_beStill 5 = .ok (.iconst 1, 1) := by decide +kernel
theorem dX6_beStill_6 : decode cX6_beStill 6 = .ok (.iadd, 1) := by decide +kernel
theorem dX6_beStill_7 : decode cX6_beStill 7 = .ok (.putfield 38, 3) := by decide +kernel
theorem dX6_beStill_10 : decode cX6_beStill 10 = .ok (.aload_n 0, 1) := by decide +kernel
theorem dX6_beStill_11 : decode cX6_beStill 11 = .ok (.invokevirtual 70, 3) := by decide +kernel
theorem dX6_beStill_14 : decode cX6_beStill 14 = .ok (.return_, 1) := by decide +kernel
set_option maxRecDepth 20000 in
theorem ggX6_endIfStuck_X6_mayThrow : GoodIn wsX6_endIfStuck wsX6_mayThrow := goodIn_r _ [8, 9, 10, 2, 3, 11, 29, 30, 31, 32, 33, 34, 35, 36, 37, 38] (by decide +kernel) (by decide +kernel)
set_option maxRecDepth 20000 in
theorem gX6_endIfStuck_X6_mayThrow : GoodIn wsX6_endIfStuck (wsV RX6 73 RX6 yX6_mayThrow wsX6_mayThrow) := goodIn_app (goodIn_of _ (by decide +kernel)) ggX6_endIfStuck_X6_mayThrow
set_option maxRecDepth 20000 in
theorem ggX6_endIfStuck_X1_anyWordFits : GoodIn wsX6_endIfStuck wsX1_anyWordFits := goodIn_r _ [16, 17, 18, 19, 20, 15, 21, 22, 23, 39, 40, 41, 42, 43, 44] (by decide +kernel) (by decide +kernel)
set_option maxRecDepth 20000 in
theorem gX6_endIfStuck_X1_anyWordFits : GoodIn wsX6_endIfStuck (wsV RX6 77 RX1 yX1_anyWordFits wsX1_anyWordFits) := goodIn_app (goodIn_of _ (by decide +kernel)) ggX6_endIfStuck_X1_anyWordFits
set_option maxRecDepth 20000 in
theorem ggX6_endIfStuck_X6_finish : GoodIn wsX6_endIfStuck wsX6_finish := goodIn_r _ [27, 9, 2, 28, 29, 30, 31, 32, 33, 34, 35, 36, 37, 38] (by decide +kernel) (by decide +kernel)
set_option maxRecDepth 20000 in
theorem gX6_endIfStuck_X6_finish : GoodIn wsX6_endIfStuck (wsV RX6 70 RX6 yX6_finish wsX6_finish) := goodIn_app (goodIn_of _ (by decide +kernel)) ggX6_endIfStuck_X6_finish
theorem dX6_endIfStuck_0 : decode cX6_endIfStuck 0 = .ok (.aload_n 0, 1) := by decide +kernel
theorem dX6_endIfStuck_1 : decode cX6_endIfStuck 1 = .ok (.invokevirtual 73, 3) := by decide +kernel
theorem dX6_endIfStuck_4 : decode cX6_endIfStuck 4 = .ok (.ifCond .ne 27, 3) := by decide +kernel
theorem dX6_endIfStuck_7 : decode cX6_endIfStuck 7 = .ok (.aload_n 1, 1) := by decide +kernel
theorem dX6_endIfStuck_8 : decode cX6_endIfStuck 8 = .ok (.aload_n 0, 1) := by decide +kernel
theorem dX6_endIfStuck_9 : decode cX6_endIfStuck 9 = .ok (.getfield 22, 3) := by decide +kernel
theorem dX6_endIfStuck_12 : decode cX6_endIfStuck 12 = .ok (.aload_n 0, 1) := by decide +kernel
theorem dX6_endIfStuck_13 : decode cX6_endIfStuck 13 = .ok (.getfield 35, 3) := by decide +kernel
theorem dX6_endIfStuck_16 : decode cX6_endIfStuck 16 = .ok (.iaload, 1) := by decide +kernel
theorem dX6_endIfStuck_17 : decode cX6_endIfStuck 17 = .ok (.aload_n 0, 1) := by decide +kernel
theorem dX6_endIfStuck_18 : decode cX6_endIfStuck 18 = .ok (.getfield 32, 3) := by decide +kernel
theorem dX6_endIfStuck_21 : decode cX6_endIfStuck 21 = .ok (.invokevirtual 77, 3) := by decide +kernel
theorem dX6_endIfStuck_24 : decode cX6_endIfStuck 24 = .ok (.ifCond .ne 7, 3) := by decide +kernel
theorem dX6_endIfStuck_27 : decode cX6_endIfStuck 27 = .ok (.aload_n 0, 1) := by decide +kernel
theorem dX6_endIfStuck_28 : decode cX6_endIfStuck 28 = .ok (.invokevirtual 70, 3) := by decide +kernel
theorem dX6_endIfStuck_31 : decode cX6_endIfStuck 31 = .ok (.return_, 1) := by decide +kernel
theorem dX6_finish_0 : decode cX6_finish 0 = .ok (.aload_n 0, 1) := by decide +kernel
theorem dX6_finish_1 : decode cX6_finish 1 = .ok (.iconst 0, 1) := by decide +kernel
theorem dX6_finish_2 : decode cX6_finish 2 = .ok (.putfield 28, 3) := by decide +kernel
theorem dX6_finish_5 : decode cX6_finish 5 = .ok (.aload_n 0, 1) := by decide +kernel
theorem dX6_finish_6 : decode cX6_finish 6 = .ok (.iconst 1, 1) := by decide +kernel
theorem dX6_finish_7 : decode cX6_finish 7 = .ok (.aload_n 0, 1) := by decide +kernel
theorem dX6_finish_8 : decode cX6_finish 8 = .ok (.getfield 35, 3) := by decide +kernel
theorem dX6_finish_11 : decode cX6_finish 11 = .ok (.isub, 1) := by decide +kernel
theorem dX6_finish_12 : decode cX6_finish 12 = .ok (.putfield 15, 3) := by decide +kernel
theorem dX6_finish_15 : decode cX6_finish 15 = .ok (.return_, 1) := by decide +kernel
set_option maxRecDepth 20000 in
theorem ggX6_goByRules_X8_choose : GoodIn wsX6_goByRules wsX8_choose := goodIn_r _ [7, 8, 9, 10, 11, 12, 6, 13, 14, 15, 16, 17, 18, 1, 19, 2, 20, 21, 22, 23, 24, 25, 26, 27, 28, 29, 30, 31, 32, 33, 34, 35, 36, 37, 38, 39, 40, 41, 42, 43, 44, 45, 46, 47, 48, 49, 50, 51, 52, 53, 92, 93, 94, 95, 96, 97, 82, 83, 84, 85, 86, 87, 88, 89, 90, 91, 98, 99, 100, 101, 102, 103] (by decide +kernel) (by decide +kernel)
set_option maxRecDepth 20000 in
theorem gX6_goByRules_X8_choose : GoodIn wsX6_goByRules (wsV RX6 81 RX8 yX8_choose wsX8_choose) := goodIn_app (goodIn_of _ (by decide +kernel)) ggX6_goByRules_X8_choose
set_option maxRecDepth 20000 in
theorem ggX6_goByRules_X6_beStill : GoodIn wsX6_goByRules wsX6_beStill := goodIn_r _ [57, 47, 58, 59, 60, 17, 61, 1, 2, 62, 82, 83, 84, 85, 86, 87, 88, 89, 90, 91] (by decide +kernel) (by decide +kernel)
set_option maxRecDepth 20000 in
theorem gX6_goByRules_X6_beStill : GoodIn wsX6_goByRules (wsV RX6 87 RX6 yX6_beStill wsX6_beStill) := goodIn_app (goodIn_of _ (by decide +kernel)) ggX6_goByRules_X6_beStill
set_option maxRecDepth 20000 in
theorem ggX6_goByRules_X6_throwPenny : GoodIn wsX6_goByRules wsX6_throwPenny := goodIn_r _ [66, 19, 2, 67, 20, 21, 47, 68, 69, 70, 17, 71, 26, 72, 15, 16, 18, 1, 73, 74, 75, 30, 76, 32, 77, 28, 29, 31, 33, 34, 58, 59, 60, 61, 62, 82, 83, 84, 85, 86, 87, 88, 89, 90, 91, 98, 99, 100, 101, 102, 103] (by decide +kernel) (by decide +kernel)
set_option maxRecDepth 20000 in
theorem gX6_goByRules_X6_throwPenny : GoodIn wsX6_goByRules (wsV RX6 90 RX6 yX6_throwPenny wsX6_throwPenny) := goodIn_app (goodIn_of _ (by decide +kernel)) ggX6_goByRules_X6_throwPenny
set_option maxRecDepth 20000 in
theorem ggX6_goByRules_X6_say : GoodIn wsX6_goByRules wsX6_say := goodIn_r _ [81, 20, 26, 2, 46, 47, 27, 28, 29, 30, 31, 32, 33, 34, 68, 69, 70, 17, 71, 72, 15, 16, 18, 1, 19, 21, 73, 74, 75, 76, 77, 58, 59, 60, 61, 62, 82, 83, 84, 85, 86, 87, 88, 89, 90, 91, 98, 99, 100, 101, 102, 103] (by decide +kernel) (by decide +kernel)
set_option maxRecDepth 20000 in
theorem gX6_goByRules_X6_say : GoodIn wsX6_goByRules (wsV RX6 93 RX6 yX6_say wsX6_say) := goodIn_app (goodIn_of _ (by decide +kernel)) ggX6_goByRules_X6_say
theorem dX6_goByRules_0 : decode cX6_goByRules 0 = .ok (.iconst 0, 1) := by decide +kernel
theorem dX6_goByRules_1 : decode cX6_goByRules 1 = .ok (.istore 4, 2) := by decide +kernel
theorem dX6_goByRules_3 : decode cX6_goByRules 3 = .ok (.iload 4, 2) := by decide +kernel
theorem dX6_goByRules_5 : decode cX6_goByRules 5 = .ok (.sipush 10000, 3) := by decide +kernel
theorem dX6_goByRules_8 : decode cX6_goByRules 8 = .ok (.if_icmp .ge 82, 3) := by decide +kernel
theorem dX6_goByRules_11 : decode cX6_goByRules 11 = .ok (.aload_n 0, 1) := by decide +kernel
theorem dX6_goByRules_12 : decode cX6_goByRules 12 = .ok (.getfield 28, 3) := by decide +kernel
theorem dX6_goByRules_15 : decode cX6_goByRules 15 = .ok (.ifCond .eq 75, 3) := by decide +kernel
theorem dX6_goByRules_18 : decode cX6_goByRules 18 = .ok (.aload_n 0, 1) := by decide +kernel
theorem dX6_goByRules_19 : decode cX6_goByRules 19 = .ok (.getfield 35, 3) := by decide +kernel
theorem dX6_goByRules_22 : decode cX6_goByRules 22 = .ok (.ifCond .ne 7, 3) := by decide +kernel
theorem dX6_goByRules_25 : decode cX6_goByRules 25 = .ok (.aload_n 2, 1) := by decide +kernel
theorem dX6_goByRules_26 : decode cX6_goByRules 26 = .ok (.goto 4, 3) := by decide +kernel
theorem dX6_goByRules_29 : decode cX6_goByRules 29 = .ok (.aload_n 3, 1) := by decide +kernel
theorem dX6_goByRules_30 : decode cX6_goByRules 30 = .ok (.astore 5, 2) := by decide +kernel
theorem dX6_goByRules_32 : decode cX6_goByRules 32 = .ok (.aload 5, 2) := by decide +kernel
theorem dX6_goByRules_34 : decode cX6_goByRules 34 = .ok (.ifnonnull 7, 3) := by decide +kernel
theorem dX6_goByRules_37 : decode cX6_goByRules 37 = .ok (.iconst (-1), 1) := by decide +kernel
theorem dX6_goByRules_38 : decode cX6_goByRules 38 = .ok (.goto 10, 3) := by decide +kernel
theorem dX6_goByRules_41 : decode cX6_goByRules 41 = .ok (.aload 5, 2) := by decide +kernel
theorem dX6_goByRules_43 : decode cX6_goByRules 43 = .ok (.aload_n 1, 1) := by decide +kernel
theorem dX6_goByRules_44 : decode cX6_goByRules 44 = .ok (.aload_n 0, 1) := by decide +kernel
theorem dX6_goByRules_45 : decode cX6_goByRules 45 = .ok (.invokevirtual 81, 3) := by decide +kernel
theorem dX6_goByRules_48 : decode cX6_goByRules 48 = .ok (.istore 6, 2) := by decide +kernel
theorem dX6_goByRules_50 : decode cX6_goByRules 50 = .ok (.iload 6, 2) := by decide +kernel
theorem dX6_goByRules_52 : decode cX6_goByRules 52 = .ok (.iconst (-1), 1) := by decide +kernel
theorem dX6_goByRules_53 : decode cX6_goByRules 53 = .ok (.if_icmp .ne 10, 3) := by decide +kernel
theorem dX6_goByRules_56 : decode cX6_goByRules 56 = .ok (.aload_n 0, 1) := by decide +kernel
theorem dX6_goByRules_57 : decode cX6_goByRules 57 = .ok (.invokevirtual 87, 3) := by decide +kernel
theorem dX6_goByRules_60 : decode cX6_goByRules 60 = .ok (.goto 24, 3) := by decide +kernel
theorem dX6_goByRules_63 : decode cX6_goByRules 63 = .ok (.iload 6, 2) := by decide +kernel
theorem dX6_goByRules_65 : decode cX6_goByRules 65 = .ok (.iconst 4, 1) := by decide +kernel
theorem dX6_goByRules_66 : decode cX6_goByRules 66 = .ok (.if_icmp .ne 11, 3) := by decide +kernel
theorem dX6_goByRules_69 : decode cX6_goByRules 69 = .ok (.aload_n 0, 1) := by decide +kernel
theorem dX6_goByRules_70 : decode cX6_goByRules 70 = .ok (.aload_n 1, 1) := by decide +kernel
theorem dX6_goByRules_71 : decode cX6_goByRules 71 = .ok (.invokevirtual 90, 3) := by decide +kernel
theorem dX6_goByRules_74 : decode cX6_goByRules 74 = .ok (.goto 10, 3) := by decide +kernel
theorem dX6_goByRules_77 : decode cX6_goByRules 77 = .ok (.aload_n 0, 1) := by decide +kernel
theorem dX6_goByRules_78 : decode cX6_goByRules 78 = .ok (.aload_n 1, 1) := by decide +kernel
theorem dX6_goByRules_79 : decode cX6_goByRules 79 = .ok (.iload 6, 2) := by decide +kernel
theorem dX6_goByRules_81 : decode cX6_goByRules 81 = .ok (.invokevirtual 93, 3) := by decide +kernel
theorem dX6_goByRules_84 : decode cX6_goByRules 84 = .ok (.iinc 4 1, 3) := by decide +kernel
theorem dX6_goByRules_87 : decode cX6_goByRules 87 = .ok (.goto (-84), 3) := by decide +kernel
theorem dX6_goByRules_90 : decode cX6_goByRules 90 = .ok (.return_, 1) := by decide +kernel
theorem dX6_ownWord_0 : decode cX6_ownWord 0 = .ok (.iload_n 1, 1) := by decide +kernel
theorem dX6_ownWord_1 : decode cX6_ownWord 1 = .ok (.tableswitch 164 (-8) (-1) #[153, 119, 89, 76, 65, 59, 53, 47], 47) := by decide +kernel
theorem dX6_ownWord_48 : decode cX6_ownWord 48 = .ok (.aload_n 0, 1) := by decide +kernel
theorem dX6_ownWord_49 : decode cX6_ownWord 49 = .ok (.getfield 35, 3) := by decide +kernel
theorem dX6_ownWord_52 : decode cX6_ownWord 52 = .ok (.i2l, 1) := by decide +kernel
theorem dX6_ownWord_53 : decode cX6_ownWord 53 = .ok (.lreturn, 1) := by decide +kernel
theorem dX6_ownWord_54 : decode cX6_ownWord 54 = .ok (.aload_n 0, 1) := by decide +kernel
theorem dX6_ownWord_55 : decode cX6_ownWord 55 = .ok (.getfield 32, 3) := by decide +kernel
theorem dX6_ownWord_58 : decode cX6_ownWord 58 = .ok (.i2l, 1) := by decide +kernel
theorem dX6_ownWord_59 : decode cX6_ownWord 59 = .ok (.lreturn, 1) := by decide +kernel
theorem dX6_ownWord_60 : decode cX6_ownWord 60 = .ok (.aload_n 0, 1) := by decide +kernel
theorem dX6_ownWord_61 : decode cX6_ownWord 61 = .ok (.getfield 9, 3) := by decide +kernel
theorem dX6_ownWord_64 : decode cX6_ownWord 64 = .ok (.i2l, 1) := by decide +kernel
theorem dX6_ownWord_65 : decode cX6_ownWord 65 = .ok (.lreturn, 1) := by decide +kernel
theorem dX6_ownWord_66 : decode cX6_ownWord 66 = .ok (.aload_n 0, 1) := by decide +kernel
theorem dX6_ownWord_67 : decode cX6_ownWord 67 = .ok (.getfield 18, 3) := by decide +kernel
theorem dX6_ownWord_70 : decode cX6_ownWord 70 = .ok (.aload_n 0, 1) := by decide +kernel
theorem dX6_ownWord_71 : decode cX6_ownWord 71 = .ok (.getfield 35, 3) := by decide +kernel
theorem dX6_ownWord_74 : decode cX6_ownWord 74 = .ok (.iaload, 1) := by decide +kernel
theorem dX6_ownWord_75 : decode cX6_ownWord 75 = .ok (.i2l, 1) := by decide +kernel
theorem dX6_ownWord_76 : decode cX6_ownWord 76 = .ok (.lreturn, 1) := by decide +kernel
theorem dX6_ownWord_77 : decode cX6_ownWord 77 = .ok (.aload_n 0, 1) := by decide +kernel
theorem dX6_ownWord_78 : decode cX6_ownWord 78 = .ok (.getfield 18, 3) := by decide +kernel
theorem dX6_ownWord_81 : decode cX6_ownWord 81 = .ok (.iconst 1, 1) := by decide +kernel
theorem dX6_ownWord_82 : decode cX6_ownWord 82 = .ok (.aload_n 0, 1) := by decide +kernel
theorem dX6_ownWord_83 : decode cX6_ownWord 83 = .ok (.getfield 35, 3) := by decide +kernel
theorem dX6_ownWord_86 : decode cX6_ownWord 86 = .ok (.isub, 1) := by decide +kernel
theorem dX6_ownWord_87 : decode cX6_ownWord 87 = .ok (.iaload, 1) := by decide +kernel
theorem dX6_ownWord_88 : decode cX6_ownWord 88 = .ok (.i2l, 1) := by decide +kernel
theorem dX6_ownWord_89 : decode cX6_ownWord 89 = .ok (.lreturn, 1) := by decide +kernel
theorem dX6_ownWord_90 : decode cX6_ownWord 90 = .ok (.aload_n 0, 1) := by decide +kernel
theorem dX6_ownWord_91 : decode cX6_ownWord 91 = .ok (.getfield 22, 3) := by decide +kernel
theorem dX6_ownWord_94 : decode cX6_ownWord 94 = .ok (.aload_n 0, 1) := by decide +kernel
theorem dX6_ownWord_95 : decode cX6_ownWord 95 = .ok (.getfield 35, 3) := by decide +kernel
theorem dX6_ownWord_98 : decode cX6_ownWord 98 = .ok (.iaload, 1) := by decide +kernel
theorem dX6_ownWord_99 : decode cX6_ownWord 99 = .ok (.iconst (-1), 1) := by decide +kernel
theorem dX6_ownWord_100 : decode cX6_ownWord 100 = .ok (.if_icmp .ne 9, 3) := by decide +kernel
theorem dX6_ownWord_103 : decode cX6_ownWord 103 = .ok (.ldc2_w 97, 3) := by decide +kernel
theorem dX6_ownWord_106 : decode cX6_ownWord 106 = .ok (.goto 13, 3) := by decide +kernel
theorem dX6_ownWord_109 : decode cX6_ownWord 109 = .ok (.aload_n 0, 1) := by decide +kernel
theorem dX6_ownWord_110 : decode cX6_ownWord 110 = .ok (.getfield 22, 3) := by decide +kernel
theorem dX6_ownWord_113 : decode cX6_ownWord 113 = .ok (.aload_n 0, 1) := by decide +kernel
theorem dX6_ownWord_114 : decode cX6_ownWord 114 = .ok (.getfield 35, 3) := by decide +kernel
theorem dX6_ownWord_117 : decode cX6_ownWord 117 = .ok (.iaload, 1) := by decide +kernel
theorem dX6_ownWord_118 : decode cX6_ownWord 118 = .ok (.i2l, 1) := by decide +kernel
theorem dX6_ownWord_119 : decode cX6_ownWord 119 = .ok (.lreturn, 1) := by decide +kernel
theorem dX6_ownWord_120 : decode cX6_ownWord 120 = .ok (.aload_n 0, 1) := by decide +kernel
theorem dX6_ownWord_121 : decode cX6_ownWord 121 = .ok (.getfield 22, 3) := by decide +kernel
theorem dX6_ownWord_124 : decode cX6_ownWord 124 = .ok (.iconst 1, 1) := by decide +kernel
theorem dX6_ownWord_125 : decode cX6_ownWord 125 = .ok (.aload_n 0, 1) := by decide +kernel
theorem dX6_ownWord_126 : decode cX6_ownWord 126 = .ok (.getfield 35, 3) := by decide +kernel
theorem dX6_ownWord_129 : decode cX6_ownWord 129 = .ok (.isub, 1) := by decide +kernel
theorem dX6_ownWord_130 : decode cX6_ownWord 130 = .ok (.iaload, 1) := by decide +kernel
theorem dX6_ownWord_131 : decode cX6_ownWord 131 = .ok (.iconst (-1), 1) := by decide +kernel
theorem dX6_ownWord_132 : decode cX6_ownWord 132 = .ok (.if_icmp .ne 9, 3) := by decide +kernel
theorem dX6_ownWord_135 : decode cX6_ownWord 135 = .ok (.ldc2_w 97, 3) := by decide +kernel
theorem dX6_ownWord_138 : decode cX6_ownWord 138 = .ok (.goto 15, 3) := by decide +kernel
theorem dX6_ownWord_141 : decode cX6_ownWord 141 = .ok (.aload_n 0, 1) := by decide +kernel
theorem dX6_ownWord_142 : decode cX6_ownWord 142 = .ok (.getfield 22, 3) := by decide +kernel
theorem dX6_ownWord_145 : decode cX6_ownWord 145 = .ok (.iconst 1, 1) := by decide +kernel
theorem dX6_ownWord_146 : decode cX6_ownWord 146 = .ok (.aload_n 0, 1) := by decide +kernel
theorem dX6_ownWord_147 : decode cX6_ownWord 147 = .ok (.getfield 35, 3) := by decide +kernel
theorem dX6_ownWord_150 : decode cX6_ownWord 150 = .ok (.isub, 1) := by decide +kernel
theorem dX6_ownWord_151 : decode cX6_ownWord 151 = .ok (.iaload, 1) := by decide +kernel
theorem dX6_ownWord_152 : decode cX6_ownWord 152 = .ok (.i2l, 1) := by decide +kernel
theorem dX6_ownWord_153 : decode cX6_ownWord 153 = .ok (.lreturn, 1) := by decide +kernel
theorem dX6_ownWord_154 : decode cX6_ownWord 154 = .ok (.aload_n 0, 1) := by decide +kernel
theorem dX6_ownWord_155 : decode cX6_ownWord 155 = .ok (.getfield 25, 3) := by decide +kernel
theorem dX6_ownWord_158 : decode cX6_ownWord 158 = .ok (.aload_n 0, 1) := by decide +kernel
theorem dX6_ownWord_159 : decode cX6_ownWord 159 = .ok (.getfield 35, 3) := by decide +kernel
theorem dX6_ownWord_162 : decode cX6_ownWord 162 = .ok (.iaload, 1) := by decide +kernel
theorem dX6_ownWord_163 : decode cX6_ownWord 163 = .ok (.i2l, 1) := by decide +kernel
theorem dX6_ownWord_164 : decode cX6_ownWord 164 = .ok (.lreturn, 1) := by decide +kernel
theorem dX6_ownWord_165 : decode cX6_ownWord 165 = .ok (.aload_n 0, 1) := by decide +kernel
theorem dX6_ownWord_166 : decode cX6_ownWord 166 = .ok (.getfield 38, 3) := by decide +kernel
theorem dX6_ownWord_169 : decode cX6_ownWord 169 = .ok (.i2l, 1) := by decide +kernel
theorem dX6_ownWord_170 : decode cX6_ownWord 170 = .ok (.lreturn, 1) := by decide +kernel
theorem dX7_init_0 : decode cX7_init 0 = .ok (.aload_n 0, 1) := by decide +kernel
theorem dX7_init_1 : decode cX7_init 1 = .ok (.invokespecial 3, 3) := by decide +kernel
theorem dX7_init_4 : decode cX7_init 4 = .ok (.aload_n 0, 1) := by decide +kernel
theorem dX7_init_5 : decode cX7_init 5 = .ok (.aload_n 1, 1) := by decide +kernel
theorem dX7_init_6 : decode cX7_init 6 = .ok (.putfield 9, 3) := by decide +kernel
theorem dX7_init_9 : decode cX7_init 9 = .ok (.aload_n 0, 1) := by decide +kernel
theorem dX7_init_10 : decode cX7_init 10 = .ok (.iload_n 2, 1) := by decide +kernel
theorem dX7_init_11 : decode cX7_init 11 = .ok (.aload_n 1, 1) := by decide +kernel
theorem dX7_init_12 : decode cX7_init 12 = .ok (.arraylength, 1) := by decide +kernel
theorem dX7_init_13 : decode cX7_init 13 = .ok (.invokestatic 15, 3) := by decide +kernel
theorem dX7_init_16 : decode cX7_init 16 = .ok (.putfield 21, 3) := by decide +kernel
theorem dX7_init_19 : decode cX7_init 19 = .ok (.return_, 1) := by decide +kernel
set_option maxRecDepth 20000 in
theorem ggX7_advance_X7_isLetter : GoodIn wsX7_advance wsX7_isLetter := goodIn_r _ [9] (by decide +kernel) (by decide +kernel)
set_option maxRecDepth 20000 in
theorem gX7_advance_X7_isLetter : GoodIn wsX7_advance (va_wsS RX7 34 yX7_isLetter wsX7_isLetter) := goodIn_app (goodIn_of _ (by decide +kernel)) ggX7_advance_X7_isLetter
set_option maxRecDepth 20000 in
theorem ggX7_advance_X7_passName : GoodIn wsX7_advance wsX7_passName := goodIn_r _ [13, 5, 1, 3, 4, 6, 7, 8, 9, 27, 28, 29, 30, 31, 32, 33, 34] (by decide +kernel) (by decide +kernel)
set_option maxRecDepth 20000 in
theorem gX7_advance_X7_passName : GoodIn wsX7_advance (wsV RX7 38 RX7 yX7_passName wsX7_passName) := goodIn_app (goodIn_of _ (by decide +kernel)) ggX7_advance_X7_passName
set_option maxRecDepth 20000 in
theorem ggX7_advance_X7_isDigit : GoodIn wsX7_advance wsX7_isDigit := goodIn_r _ [16] (by decide +kernel) (by decide +kernel)
set_option maxRecDepth 20000 in
theorem gX7_advance_X7_isDigit : GoodIn wsX7_advance (va_wsS RX7 41 yX7_isDigit wsX7_isDigit) := goodIn_app (goodIn_of _ (by decide +kernel)) ggX7_advance_X7_isDigit
set_option maxRecDepth 20000 in
theorem ggX7_advance_X7_passNumber : GoodIn wsX7_advance wsX7_passNumber := goodIn_r _ [20, 5, 21, 1, 3, 4, 2, 14, 15, 8, 16, 27, 28, 29, 30, 31, 32, 33, 34] (by decide +kernel) (by decide +kernel)
set_option maxRecDepth 20000 in
theorem gX7_advance_X7_passNumber : GoodIn wsX7_advance (wsV RX7 44 RX7 yX7_passNumber wsX7_passNumber) := goodIn_app (goodIn_of _ (by decide +kernel)) ggX7_advance_X7_passNumber
set_option maxRecDepth 20000 in
theorem ggX7_advance_X7_passSign : GoodIn wsX7_advance wsX7_passSign := goodIn_r _ [25, 5, 26, 2, 1, 3, 4, 27, 28, 29, 30, 31, 32, 33, 34] (by decide +kernel) (by decide +kernel)
set_option maxRecDepth 20000 in
theorem gX7_advance_X7_passSign : GoodIn wsX7_advance (wsV RX7 47 RX7 yX7_passSign wsX7_passSign) := goodIn_app (goodIn_of _ (by decide +kernel)) ggX7_advance_X7_passSign
theorem dX7_advance_0 : decode cX7_advance 0 = .ok (.aload_n 0, 1) := by decide +kernel
theorem dX7_advance_1 : decode cX7_advance 1 = .ok (.aload_n 0, 1) := by decide +kernel
theorem dX7_advance_2 : decode cX7_advance 2 = .ok (.getfield 25, 3) := by decide +kernel
theorem dX7_advance_5 : decode cX7_advance 5 = .ok (.putfield 28, 3) := by decide +kernel
theorem dX7_advance_8 : decode cX7_advance 8 = .ok (.aload_n 0, 1) := by decide +kernel
theorem dX7_advance_9 : decode cX7_advance 9 = .ok (.getfield 28, 3) := by decide +kernel
theorem dX7_advance_12 : decode cX7_advance 12 = .ok (.aload_n 0, 1) := by decide +kernel
theorem dX7_advance_13 : decode cX7_advance 13 = .ok (.getfield 21, 3) := by decide +kernel
theorem dX7_advance_16 : decode cX7_advance 16 = .ok (.if_icmp .ge 30, 3) := by decide +kernel
theorem dX7_advance_19 : decode cX7_advance 19 = .ok (.aload_n 0, 1) := by decide +kernel
theorem dX7_advance_20 : decode cX7_advance 20 = .ok (.getfield 9, 3) := by decide +kernel
theorem dX7_advance_23 : decode cX7_advance 23 = .ok (.aload_n 0, 1) := by decide +kernel
theorem dX7_advance_24 : decode cX7_advance 24 = .ok (.getfield 28, 3) := by decide +kernel
theorem dX7_advance_27 : decode cX7_advance 27 = .ok (.iaload, 1) := by decide +kernel
theorem dX7_advance_28 : decode cX7_advance 28 = .ok (.bipush 32, 2) := by decide +kernel
theorem dX7_advance_30 : decode cX7_advance 30 = .ok (.if_icmp .ne 16, 3) := by decide +kernel
theorem dX7_advance_33 : decode cX7_advance 33 = .ok (.aload_n 0, 1) := by decide +kernel
theorem dX7_advance_34 : decode cX7_advance 34 = .ok (.dup, 1) := by decide +kernel
theorem dX7_advance_35 : decode cX7_advance 35 = .ok (.getfield 28, 3) := by decide +kernel
theorem dX7_advance_38 : decode cX7_advance 38 = .ok (.iconst 1, 1) := by decide +kernel
theorem dX7_advance_39 : decode cX7_advance 39 = .ok (.iadd, 1) := by decide +kernel
theorem dX7_advance_40 : decode cX7_advance 40 = .ok (.putfield 28, 3) := by decide +kernel
theorem dX7_advance_43 : decode cX7_advance 43 = .ok (.goto (-35), 3) := by decide +kernel
theorem dX7_advance_46 : decode cX7_advance 46 = .ok (.aload_n 0, 1) := by decide +kernel
theorem dX7_advance_47 : decode cX7_advance 47 = .ok (.aload_n 0, 1) := by decide +kernel
theorem dX7_advance_48 : decode cX7_advance 48 = .ok (.getfield 28, 3) := by decide +kernel
theorem dX7_advance_51 : decode cX7_advance 51 = .ok (.putfield 25, 3) := by decide +kernel
theorem dX7_advance_54 : decode cX7_advance 54 = .ok (.aload_n 0, 1) := by decide +kernel
theorem dX7_advance_55 : decode cX7_advance 55 = .ok (.getfield 28, 3) := by decide +kernel
theorem dX7_advance_58 : decode cX7_advance 58 = .ok (.aload_n 0, 1) := by decide +kernel
theorem dX7_advance_59 : decode cX7_advance 59 = .ok (.getfield 21, 3) := by decide +kernel
theorem dX7_advance_62 : decode cX7_advance 62 = .ok (.if_icmp .lt 11, 3) := by decide +kernel
theorem dX7_advance_65 : decode cX7_advance 65 = .ok (.aload_n 0, 1) := by decide +kernel
theorem dX7_advance_66 : decode cX7_advance 66 = .ok (.iconst 0, 1) := by decide +kernel
theorem dX7_advance_67 : decode cX7_advance 67 = .ok (.putfield 31, 3) := by decide +kernel
theorem dX7_advance_70 : decode cX7_advance 70 = .ok (.goto 60, 3) := by decide +kernel
theorem dX7_advance_73 : decode cX7_advance 73 = .ok (.aload_n 0, 1) := by decide +kernel
theorem dX7_advance_74 : decode cX7_advance 74 = .ok (.getfield 9, 3) := by decide +kernel
theorem dX7_advance_77 : decode cX7_advance 77 = .ok (.aload_n 0, 1) := by decide +kernel
theorem dX7_advance_78 : decode cX7_advance 78 = .ok (.getfield 28, 3) := by decide +kernel
theorem dX7_advance_81 : decode cX7_advance 81 = .ok (.iaload, 1) := by decide +kernel
theorem dX7_advance_82 : decode cX7_advance 82 = .ok (.invokestatic 34, 3) := by decide +kernel
theorem dX7_advance_85 : decode cX7_advance 85 = .ok (.ifCond .eq 10, 3) := by decide +kernel
theorem dX7_advance_88 : decode cX7_advance 88 = .ok (.aload_n 0, 1) := by decide +kernel
theorem dX7_advance_89 : decode cX7_advance 89 = .ok (.invokevirtual 38, 3) := by decide +kernel
theorem dX7_advance_92 : decode cX7_advance 92 = .ok (.goto 38, 3) := by decide +kernel
theorem dX7_advance_95 : decode cX7_advance 95 = .ok (.aload_n 0, 1) := by decide +kernel
theorem dX7_advance_96 : decode cX7_advance 96 = .ok (.getfield 9, 3) := by decide +kernel
theorem dX7_advance_99 : decode cX7_advance 99 = .ok (.aload_n 0, 1) := by decide +kernel
theorem dX7_advance_100 : decode cX7_advance 100 = .ok (.getfield 28, 3) := by decide +kernel
theorem dX7_advance_103 : decode cX7_advance 103 = .ok (.iaload, 1) := by decide +kernel
theorem dX7_advance_104 : decode cX7_advance 104 = .ok (.invokestatic 41, 3) := by decide +kernel
theorem dX7_advance_107 : decode cX7_advance 107 = .ok (.ifCond .eq 10, 3) := by decide +kernel
theorem dX7_advance_110 : decode cX7_advance 110 = .ok (.aload_n 0, 1) := by decide +kernel
theorem dX7_advance_111 : decode cX7_advance 111 = .ok (.invokevirtual 44, 3) := by decide +kernel
theorem dX7_advance_114 : decode cX7_advance 114 = .ok (.goto 16, 3) := by decide +kernel
theorem dX7_advance_117 : decode cX7_advance 117 = .ok (.aload_n 0, 1) := by decide +kernel
theorem dX7_advance_118 : decode cX7_advance 118 = .ok (.aload_n 0, 1) := by decide +kernel
theorem dX7_advance_119 : decode cX7_advance 119 = .ok (.getfield 9, 3) := by decide +kernel
theorem dX7_advance_122 : decode cX7_advance 122 = .ok (.aload_n 0, 1) := by decide +kernel
theorem dX7_advance_123 : decode cX7_advance 123 = .ok (.getfield 28, 3) := by decide +kernel
theorem dX7_advance_126 : decode cX7_advance 126 = .ok (.iaload, 1) := by decide +kernel
theorem dX7_advance_127 : decode cX7_advance 127 = .ok (.invokevirtual 47, 3) := by decide +kernel
theorem dX7_advance_130 : decode cX7_advance 130 = .ok (.return_, 1) := by decide +kernel
set_option maxRecDepth 20000 in
theorem ggX7_passName_X7_isLetter : GoodIn wsX7_passName wsX7_isLetter := goodIn_r _ [8] (by decide +kernel) (by decide +kernel)
set_option maxRecDepth 20000 in
theorem gX7_passName_X7_isLetter : GoodIn wsX7_passName (va_wsS RX7 34 yX7_isLetter wsX7_isLetter) := goodIn_app (goodIn_of _ (by decide +kernel)) ggX7_passName_X7_isLetter
theorem dX7_passName_0 : decode cX7_passName 0 = .ok (.aload_n 0, 1) := by decide +kernel
theorem dX7_passName_1 : decode cX7_passName 1 = .ok (.iconst 1, 1) := by decide +kernel
theorem dX7_passName_2 : decode cX7_passName 2 = .ok (.putfield 31, 3) := by decide +kernel
theorem dX7_passName_5 : decode cX7_passName 5 = .ok (.aload_n 0, 1) := by decide +kernel
theorem dX7_passName_6 : decode cX7_passName 6 = .ok (.getfield 25, 3) := by decide +kernel
theorem dX7_passName_9 : decode cX7_passName 9 = .ok (.aload_n 0, 1) := by decide +kernel
theorem dX7_passName_10 : decode cX7_passName 10 = .ok (.getfield 21, 3) := by decide +kernel
theorem dX7_passName_13 : decode cX7_passName 13 = .ok (.if_icmp .ge 31, 3) := by decide +kernel
theorem dX7_passName_16 : decode cX7_passName 16 = .ok (.aload_n 0, 1) := by decide +kernel
theorem dX7_passName_17 : decode cX7_passName 17 = .ok (.getfield 9, 3) := by decide +kernel
theorem dX7_passName_20 : decode cX7_passName 20 = .ok (.aload_n 0, 1) := by decide +kernel
theorem dX7_passName_21 : decode cX7_passName 21 = .ok (.getfield 25, 3) := by decide +kernel
theorem dX7_passName_24 : decode cX7_passName 24 = .ok (.iaload, 1) := by decide +kernel
theorem dX7_passName_25 : decode cX7_passName 25 = .ok (.invokestatic 34, 3) := by decide +kernel
theorem dX7_passName_28 : decode cX7_passName 28 = .ok (.ifCond .eq 16, 3) := by decide +kernel
theorem dX7_passName_31 : decode cX7_passName 31 = .ok (.aload_n 0, 1) := by decide +kernel
theorem dX7_passName_32 : decode cX7_passName 32 = .ok (.dup, 1) := by decide +kernel
theorem dX7_passName_33 : decode cX7_passName 33 = .ok (.getfield 25, 3) := by decide +kernel
theorem dX7_passName_36 : decode cX7_passName 36 = .ok (.iconst 1, 1) := by decide +kernel
theorem dX7_passName_37 : decode cX7_passName 37 = .ok (.iadd, 1) := by decide +kernel
theorem dX7_passName_38 : decode cX7_passName 38 = .ok (.putfield 25, 3) := by decide +kernel
theorem dX7_passName_41 : decode cX7_passName 41 = .ok (.goto (-36), 3) := by decide +kernel
theorem dX7_passName_44 : decode cX7_passName 44 = .ok (.return_, 1) := by decide +kernel
set_option maxRecDepth 20000 in
theorem ggX7_passNumber_X7_isDigit : GoodIn wsX7_passNumber wsX7_isDigit := goodIn_r _ [10] (by decide +kernel) (by decide +kernel)
set_option maxRecDepth 20000 in
theorem gX7_passNumber_X7_isDigit : GoodIn wsX7_passNumber (va_wsS RX7 41 yX7_isDigit wsX7_isDigit) := goodIn_app (goodIn_of _ (by decide +kernel)) ggX7_passNumber_X7_isDigit
theorem dX7_passNumber_0 : decode cX7_passNumber 0 = .ok (.aload_n 0, 1) := by decide +kernel
theorem dX7_passNumber_1 : decode cX7_passNumber 1 = .ok (.iconst 2, 1) := by decide +kernel
theorem dX7_passNumber_2 : decode cX7_passNumber 2 = .ok (.putfield 31, 3) := by decide +kernel
theorem dX7_passNumber_5 : decode cX7_passNumber 5 = .ok (.aload_n 0, 1) := by decide +kernel
theorem dX7_passNumber_6 : decode cX7_passNumber 6 = .ok (.iconst 0, 1) := by decide +kernel
theorem dX7_passNumber_7 : decode cX7_passNumber 7 = .ok (.putfield 51, 3) := by decide +kernel
theorem dX7_passNumber_10 : decode cX7_passNumber 10 = .ok (.aload_n 0, 1) := by decide +kernel
theorem dX7_passNumber_11 : decode cX7_passNumber 11 = .ok (.getfield 25, 3) := by decide +kernel
theorem dX7_passNumber_14 : decode cX7_passNumber 14 = .ok (.aload_n 0, 1) := by decide +kernel
theorem dX7_passNumber_15 : decode cX7_passNumber 15 = .ok (.getfield 21, 3) := by decide +kernel
theorem dX7_passNumber_18 : decode cX7_passNumber 18 = .ok (.if_icmp .ge 76, 3) := by decide +kernel
theorem dX7_passNumber_21 : decode cX7_passNumber 21 = .ok (.aload_n 0, 1) := by decide +kernel
theorem dX7_passNumber_22 : decode cX7_passNumber 22 = .ok (.getfield 9, 3) := by decide +kernel
theorem dX7_passNumber_25 : decode cX7_passNumber 25 = .ok (.aload_n 0, 1) := by decide +kernel
theorem dX7_passNumber_26 : decode cX7_passNumber 26 = .ok (.getfield 25, 3) := by decide +kernel
theorem dX7_passNumber_29 : decode cX7_passNumber 29 = .ok (.iaload, 1) := by decide +kernel
theorem dX7_passNumber_30 : decode cX7_passNumber 30 = .ok (.invokestatic 41, 3) := by decide +kernel
theorem dX7_passNumber_33 : decode cX7_passNumber 33 = .ok (.ifCond .eq 61, 3) := by decide +kernel
theorem dX7_passNumber_36 : decode cX7_passNumber 36 = .ok (.aload_n 0, 1) := by decide +kernel
theorem dX7_passNumber_37 : decode cX7_passNumber 37 = .ok (.getfield 25, 3) := by decide +kernel
theorem dX7_passNumber_40 : decode cX7_passNumber 40 = .ok (.aload_n 0, 1) := by decide +kernel
theorem dX7_passNumber_41 : decode cX7_passNumber 41 = .ok (.getfield 28, 3) := by decide +kernel
theorem dX7_passNumber_44 : decode cX7_passNumber 44 = .ok (.isub, 1) := by decide +kernel
theorem dX7_passNumber_45 : decode cX7_passNumber 45 = .ok (.iconst 5, 1) := by decide +kernel
theorem dX7_passNumber_46 : decode cX7_passNumber 46 = .ok (.if_icmp .ge 30, 3) := by decide +kernel
theorem dX7_passNumber_49 : decode cX7_passNumber 49 = .ok (.aload_n 0, 1) := by decide +kernel
theorem dX7_passNumber_50 : decode cX7_passNumber 50 = .ok (.aload_n 0, 1) := by decide +kernel
theorem dX7_passNumber_51 : decode cX7_passNumber 51 = .ok (.getfield 51, 3) := by decide +kernel
theorem dX7_passNumber_54 : decode cX7_passNumber 54 = .ok (.bipush 10, 2) := by decide +kernel
theorem dX7_passNumber_56 : decode cX7_passNumber 56 = .ok (.imul, 1) := by decide +kernel
theorem dX7_passNumber_57 : decode cX7_passNumber 57 = .ok (.aload_n 0, 1) := by decide +kernel
theorem dX7_passNumber_58 : decode cX7_passNumber 58 = .ok (.getfield 9, 3) := by decide +kernel
theorem dX7_passNumber_61 : decode cX7_passNumber 61 = .ok (.aload_n 0, 1) := by decide +kernel
theorem dX7_passNumber_62 : decode cX7_passNumber 62 = .ok (.getfield 25, 3) := by decide +kernel
theorem dX7_passNumber_65 : decode cX7_passNumber 65 = .ok (.iaload, 1) := by decide +kernel
theorem dX7_passNumber_66 : decode cX7_passNumber 66 = .ok (.iadd, 1) := by decide +kernel
theorem dX7_passNumber_67 : decode cX7_passNumber 67 = .ok (.bipush 48, 2) := by decide +kernel
theorem dX7_passNumber_69 : decode cX7_passNumber 69 = .ok (.isub, 1) := by decide +kernel
theorem dX7_passNumber_70 : decode cX7_passNumber 70 = .ok (.putfield 51, 3) := by decide +kernel
theorem dX7_passNumber_73 : decode cX7_passNumber 73 = .ok (.goto 8, 3) := by decide +kernel
theorem dX7_passNumber_76 : decode cX7_passNumber 76 = .ok (.aload_n 0, 1) := by decide +kernel
theorem dX7_passNumber_77 : decode cX7_passNumber 77 = .ok (.iconst (-1), 1) := by decide +kernel
theorem dX7_passNumber_78 : decode cX7_passNumber 78 = .ok (.putfield 51, 3) := by decide +kernel
theorem dX7_passNumber_81 : decode cX7_passNumber 81 = .ok (.aload_n 0, 1) := by decide +kernel
theorem dX7_passNumber_82 : decode cX7_passNumber 82 = .ok (.dup, 1) := by decide +kernel
theorem dX7_passNumber_83 : decode cX7_passNumber 83 = .ok (.getfield 25, 3) := by decide +kernel
theorem dX7_passNumber_86 : decode cX7_passNumber 86 = .ok (.iconst 1, 1) := by decide +kernel
theorem dX7_passNumber_87 : decode cX7_passNumber 87 = .ok (.iadd, 1) := by decide +kernel
theorem dX7_passNumber_88 : decode cX7_passNumber 88 = .ok (.putfield 25, 3) := by decide +kernel
theorem dX7_passNumber_91 : decode cX7_passNumber 91 = .ok (.goto (-81), 3) := by decide +kernel
theorem dX7_passNumber_94 : decode cX7_passNumber 94 = .ok (.return_, 1) := by decide +kernel
theorem dX7_passSign_0 : decode cX7_passSign 0 = .ok (.aload_n 0, 1) := by decide +kernel
theorem dX7_passSign_1 : decode cX7_passSign 1 = .ok (.iconst 3, 1) := by decide +kernel
theorem dX7_passSign_2 : decode cX7_passSign 2 = .ok (.putfield 31, 3) := by decide +kernel
theorem dX7_passSign_5 : decode cX7_passSign 5 = .ok (.aload_n 0, 1) := by decide +kernel
theorem dX7_passSign_6 : decode cX7_passSign 6 = .ok (.iload_n 1, 1) := by decide +kernel
theorem dX7_passSign_7 : decode cX7_passSign 7 = .ok (.putfield 54, 3) := by decide +kernel
theorem dX7_passSign_10 : decode cX7_passSign 10 = .ok (.aload_n 0, 1) := by decide +kernel
theorem dX7_passSign_11 : decode cX7_passSign 11 = .ok (.aload_n 0, 1) := by decide +kernel
theorem dX7_passSign_12 : decode cX7_passSign 12 = .ok (.getfield 28, 3) := by decide +kernel
theorem dX7_passSign_15 : decode cX7_passSign 15 = .ok (.iconst 1, 1) := by decide +kernel
theorem dX7_passSign_16 : decode cX7_passSign 16 = .ok (.iadd, 1) := by decide +kernel
theorem dX7_passSign_17 : decode cX7_passSign 17 = .ok (.putfield 25, 3) := by decide +kernel
theorem dX7_passSign_20 : decode cX7_passSign 20 = .ok (.iload_n 1, 1) := by decide +kernel
theorem dX7_passSign_21 : decode cX7_passSign 21 = .ok (.bipush 60, 2) := by decide +kernel
theorem dX7_passSign_23 : decode cX7_passSign 23 = .ok (.if_icmp .eq 9, 3) := by decide +kernel
theorem dX7_passSign_26 : decode cX7_passSign 26 = .ok (.iload_n 1, 1) := by decide +kernel
theorem dX7_passSign_27 : decode cX7_passSign 27 = .ok (.bipush 62, 2) := by decide +kernel
theorem dX7_passSign_29 : decode cX7_passSign 29 = .ok (.if_icmp .ne 47, 3) := by decide +kernel
theorem dX7_passSign_32 : decode cX7_passSign 32 = .ok (.aload_n 0, 1) := by decide +kernel
theorem dX7_passSign_33 : decode cX7_passSign 33 = .ok (.getfield 25, 3) := by decide +kernel
theorem dX7_passSign_36 : decode cX7_passSign 36 = .ok (.aload_n 0, 1) := by decide +kernel
theorem dX7_passSign_37 : decode cX7_passSign 37 = .ok (.getfield 21, 3) := by decide +kernel
theorem dX7_passSign_40 : decode cX7_passSign 40 = .ok (.if_icmp .ge 36, 3) := by decide +kernel
theorem dX7_passSign_43 : decode cX7_passSign 43 = .ok (.aload_n 0, 1) := by decide +kernel
theorem dX7_passSign_44 : decode cX7_passSign 44 = .ok (.getfield 9, 3) := by decide +kernel
theorem dX7_passSign_47 : decode cX7_passSign 47 = .ok (.aload_n 0, 1) := by decide +kernel
theorem dX7_passSign_48 : decode cX7_passSign 48 = .ok (.getfield 25, 3) := by decide +kernel
theorem dX7_passSign_51 : decode cX7_passSign 51 = .ok (.iaload, 1) := by decide +kernel
theorem dX7_passSign_52 : decode cX7_passSign 52 = .ok (.bipush 61, 2) := by decide +kernel
theorem dX7_passSign_54 : decode cX7_passSign 54 = .ok (.if_icmp .ne 22, 3) := by decide +kernel
theorem dX7_passSign_57 : decode cX7_passSign 57 = .ok (.aload_n 0, 1) := by decide +kernel
theorem dX7_passSign_58 : decode cX7_passSign 58 = .ok (.iload_n 1, 1) := by decide +kernel
theorem dX7_passSign_59 : decode cX7_passSign 59 = .ok (.sipush 256, 3) := by decide +kernel
theorem dX7_passSign_62 : decode cX7_passSign 62 = .ok (.iadd, 1) := by decide +kernel
theorem dX7_passSign_63 : decode cX7_passSign 63 = .ok (.putfield 54, 3) := by decide +kernel
theorem dX7_passSign_66 : decode cX7_passSign 66 = .ok (.aload_n 0, 1) := by decide +kernel
theorem dX7_passSign_67 : decode cX7_passSign 67 = .ok (.dup, 1) := by decide +kernel
theorem dX7_passSign_68 : decode cX7_passSign 68 = .ok (.getfield 25, 3) := by decide +kernel
theorem dX7_passSign_71 : decode cX7_passSign 71 = .ok (.iconst 1, 1) := by decide +kernel
theorem dX7_passSign_72 : decode cX7_passSign 72 = .ok (.iadd, 1) := by decide +kernel
theorem dX7_passSign_73 : decode cX7_passSign 73 = .ok (.putfield 25, 3) := by decide +kernel
theorem dX7_passSign_76 : decode cX7_passSign 76 = .ok (.return_, 1) := by decide +kernel
theorem dX7_isLetter_0 : decode cX7_isLetter 0 = .ok (.iload_n 0, 1) := by decide +kernel
theorem dX7_isLetter_1 : decode cX7_isLetter 1 = .ok (.bipush 97, 2) := by decide +kernel
theorem dX7_isLetter_3 : decode cX7_isLetter 3 = .ok (.if_icmp .lt 13, 3) := by decide +kernel
theorem dX7_isLetter_6 : decode cX7_isLetter 6 = .ok (.iload_n 0, 1) := by decide +kernel
theorem dX7_isLetter_7 : decode cX7_isLetter 7 = .ok (.bipush 122, 2) := by decide +kernel
theorem dX7_isLetter_9 : decode cX7_isLetter 9 = .ok (.if_icmp .gt 7, 3) := by decide +kernel
theorem dX7_isLetter_12 : decode cX7_isLetter 12 = .ok (.iconst 1, 1) := by decide +kernel
theorem dX7_isLetter_13 : decode cX7_isLetter 13 = .ok (.goto 4, 3) := by decide +kernel
theorem dX7_isLetter_16 : decode cX7_isLetter 16 = .ok (.iconst 0, 1) := by decide +kernel
theorem dX7_isLetter_17 : decode cX7_isLetter 17 = .ok (.ireturn, 1) := by decide +kernel
theorem dX7_isDigit_0 : decode cX7_isDigit 0 = .ok (.iload_n 0, 1) := by decide +kernel
theorem dX7_isDigit_1 : decode cX7_isDigit 1 = .ok (.bipush 48, 2) := by decide +kernel
theorem dX7_isDigit_3 : decode cX7_isDigit 3 = .ok (.if_icmp .lt 13, 3) := by decide +kernel
theorem dX7_isDigit_6 : decode cX7_isDigit 6 = .ok (.iload_n 0, 1) := by decide +kernel
theorem dX7_isDigit_7 : decode cX7_isDigit 7 = .ok (.bipush 57, 2) := by decide +kernel
theorem dX7_isDigit_9 : decode cX7_isDigit 9 = .ok (.if_icmp .gt 7, 3) := by decide +kernel
theorem dX7_isDigit_12 : decode cX7_isDigit 12 = .ok (.iconst 1, 1) := by decide +kernel
theorem dX7_isDigit_13 : decode cX7_isDigit 13 = .ok (.goto 4, 3) := by decide +kernel
theorem dX7_isDigit_16 : decode cX7_isDigit 16 = .ok (.iconst 0, 1) := by decide +kernel
theorem dX7_isDigit_17 : decode cX7_isDigit 17 = .ok (.ireturn, 1) := by decide +kernel
theorem dX7_fail_0 : decode cX7_fail 0 = .ok (.aload_n 0, 1) := by decide +kernel
theorem dX7_fail_1 : decode cX7_fail 1 = .ok (.getfield 57, 3) := by decide +kernel
theorem dX7_fail_4 : decode cX7_fail 4 = .ok (.ifCond .ne 18, 3) := by decide +kernel
theorem dX7_fail_7 : decode cX7_fail 7 = .ok (.aload_n 0, 1) := by decide +kernel
theorem dX7_fail_8 : decode cX7_fail 8 = .ok (.iconst 1, 1) := by decide +kernel
theorem dX7_fail_9 : decode cX7_fail 9 = .ok (.bipush 8, 2) := by decide +kernel
theorem dX7_fail_11 : decode cX7_fail 11 = .ok (.aload_n 0, 1) := by decide +kernel
theorem dX7_fail_12 : decode cX7_fail 12 = .ok (.getfield 28, 3) := by decide +kernel
theorem dX7_fail_15 : decode cX7_fail 15 = .ok (.imul, 1) := by decide +kernel
theorem dX7_fail_16 : decode cX7_fail 16 = .ok (.iadd, 1) := by decide +kernel
theorem dX7_fail_17 : decode cX7_fail 17 = .ok (.iload_n 1, 1) := by decide +kernel
theorem dX7_fail_18 : decode cX7_fail 18 = .ok (.iadd, 1) := by decide +kernel
theorem dX7_fail_19 : decode cX7_fail 19 = .ok (.putfield 57, 3) := by decide +kernel
theorem dX7_fail_22 : decode cX7_fail 22 = .ok (.return_, 1) := by decide +kernel
theorem dX7_isSign_0 : decode cX7_isSign 0 = .ok (.aload_n 0, 1) := by decide +kernel
theorem dX7_isSign_1 : decode cX7_isSign 1 = .ok (.getfield 31, 3) := by decide +kernel
theorem dX7_isSign_4 : decode cX7_isSign 4 = .ok (.iconst 3, 1) := by decide +kernel
theorem dX7_isSign_5 : decode cX7_isSign 5 = .ok (.if_icmp .ne 15, 3) := by decide +kernel
theorem dX7_isSign_8 : decode cX7_isSign 8 = .ok (.aload_n 0, 1) := by decide +kernel
theorem dX7_isSign_9 : decode cX7_isSign 9 = .ok (.getfield 54, 3) := by decide +kernel
theorem dX7_isSign_12 : decode cX7_isSign 12 = .ok (.iload_n 1, 1) := by decide +kernel
theorem dX7_isSign_13 : decode cX7_isSign 13 = .ok (.if_icmp .ne 7, 3) := by decide +kernel
theorem dX7_isSign_16 : decode cX7_isSign 16 = .ok (.iconst 1, 1) := by decide +kernel
theorem dX7_isSign_17 : decode cX7_isSign 17 = .ok (.goto 4, 3) := by decide +kernel
theorem dX7_isSign_20 : decode cX7_isSign 20 = .ok (.iconst 0, 1) := by decide +kernel
theorem dX7_isSign_21 : decode cX7_isSign 21 = .ok (.ireturn, 1) := by decide +kernel
set_option maxRecDepth 20000 in
theorem ggX7_nameAmong_J0_length_8abf5 : GoodIn wsX7_nameAmong wsJ0_length_8abf5 := goodIn_r _ [9, 10, 11, 12, 13, 8, 14, 15, 16] (by decide +kernel) (by decide +kernel)
set_option maxRecDepth 20000 in
theorem gX7_nameAmong_J0_length_8abf5 : GoodIn wsX7_nameAmong (wsV RX7 60 RJ0 yJ0_length_8abf5 wsJ0_length_8abf5) := goodIn_app (goodIn_of _ (by decide +kernel)) ggX7_nameAmong_J0_length_8abf5
set_option maxRecDepth 20000 in
theorem ggX7_nameAmong_J0_charAt_5068e : GoodIn wsX7_nameAmong wsJ0_charAt_5068e := goodIn_r _ [20, 10, 21, 22, 23, 8, 24, 15, 16, 25, 26, 27, 28, 29, 30, 31, 32, 33, 34, 35, 36, 37, 38, 39, 40, 41, 42, 43, 44, 45, 46, 47, 48, 49, 50, 51, 52, 53] (by decide +kernel) (by decide +kernel)
set_option maxRecDepth 20000 in
theorem gX7_nameAmong_J0_charAt_5068e : GoodIn wsX7_nameAmong (wsV RX7 65 RJ0 yJ0_charAt_5068e wsJ0_charAt_5068e) := goodIn_app (goodIn_of _ (by decide +kernel)) ggX7_nameAmong_J0_charAt_5068e
theorem dX7_nameAmong_0 : decode cX7_nameAmong 0 = .ok (.aload_n 0, 1) := by decide +kernel
theorem dX7_nameAmong_1 : decode cX7_nameAmong 1 = .ok (.getfield 31, 3) := by decide +kernel
theorem dX7_nameAmong_4 : decode cX7_nameAmong 4 = .ok (.iconst 1, 1) := by decide +kernel
theorem dX7_nameAmong_5 : decode cX7_nameAmong 5 = .ok (.if_icmp .eq 5, 3) := by decide +kernel
theorem dX7_nameAmong_8 : decode cX7_nameAmong 8 = .ok (.iconst (-1), 1) := by decide +kernel
theorem dX7_nameAmong_9 : decode cX7_nameAmong 9 = .ok (.ireturn, 1) := by decide +kernel
theorem dX7_nameAmong_10 : decode cX7_nameAmong 10 = .ok (.iconst 0, 1) := by decide +kernel
theorem dX7_nameAmong_11 : decode cX7_nameAmong 11 = .ok (.istore_n 2, 1) := by decide +kernel
theorem dX7_nameAmong_12 : decode cX7_nameAmong 12 = .ok (.iconst 0, 1) := by decide +kernel
theorem dX7_nameAmong_13 : decode cX7_nameAmong 13 = .ok (.istore_n 3, 1) := by decide +kernel
theorem dX7_nameAmong_14 : decode cX7_nameAmong 14 = .ok (.iconst 0, 1) := by decide +kernel
theorem dX7_nameAmong_15 : decode cX7_nameAmong 15 = .ok (.istore 4, 2) := by decide +kernel
theorem dX7_nameAmong_17 : decode cX7_nameAmong 17 = .ok (.iload 4, 2) := by decide +kernel
theorem dX7_nameAmong_19 : decode cX7_nameAmong 19 = .ok (.aload_n 1, 1) := by decide +kernel
theorem dX7_nameAmong_20 : decode cX7_nameAmong 20 = .ok (.invokevirtual 60, 3) := by decide +kernel
theorem dX7_nameAmong_23 : decode cX7_nameAmong 23 = .ok (.if_icmp .ge 88, 3) := by decide +kernel
theorem dX7_nameAmong_26 : decode cX7_nameAmong 26 = .ok (.aload_n 1, 1) := by decide +kernel
theorem dX7_nameAmong_27 : decode cX7_nameAmong 27 = .ok (.iload 4, 2) := by decide +kernel
theorem dX7_nameAmong_29 : decode cX7_nameAmong 29 = .ok (.invokevirtual 65, 3) := by decide +kernel
theorem dX7_nameAmong_32 : decode cX7_nameAmong 32 = .ok (.bipush 32, 2) := by decide +kernel
theorem dX7_nameAmong_34 : decode cX7_nameAmong 34 = .ok (.if_icmp .ne 26, 3) := by decide +kernel
theorem dX7_nameAmong_37 : decode cX7_nameAmong 37 = .ok (.iload_n 3, 1) := by decide +kernel
theorem dX7_nameAmong_38 : decode cX7_nameAmong 38 = .ok (.aload_n 0, 1) := by decide +kernel
theorem dX7_nameAmong_39 : decode cX7_nameAmong 39 = .ok (.getfield 25, 3) := by decide +kernel
theorem dX7_nameAmong_42 : decode cX7_nameAmong 42 = .ok (.aload_n 0, 1) := by decide +kernel
theorem dX7_nameAmong_43 : decode cX7_nameAmong 43 = .ok (.getfield 28, 3) := by decide +kernel
theorem dX7_nameAmong_46 : decode cX7_nameAmong 46 = .ok (.isub, 1) := by decide +kernel
theorem dX7_nameAmong_47 : decode cX7_nameAmong 47 = .ok (.if_icmp .ne 5, 3) := by decide +kernel
theorem dX7_nameAmong_50 : decode cX7_nameAmong 50 = .ok (.iload_n 2, 1) := by decide +kernel
theorem dX7_nameAmong_51 : decode cX7_nameAmong 51 = .ok (.ireturn, 1) := by decide +kernel
theorem dX7_nameAmong_52 : decode cX7_nameAmong 52 = .ok (.iinc 2 1, 3) := by decide +kernel
theorem dX7_nameAmong_55 : decode cX7_nameAmong 55 = .ok (.iconst 0, 1) := by decide +kernel
theorem dX7_nameAmong_56 : decode cX7_nameAmong 56 = .ok (.istore_n 3, 1) := by decide +kernel
theorem dX7_nameAmong_57 : decode cX7_nameAmong 57 = .ok (.goto 48, 3) := by decide +kernel
theorem dX7_nameAmong_60 : decode cX7_nameAmong 60 = .ok (.iload_n 3, 1) := by decide +kernel
theorem dX7_nameAmong_61 : decode cX7_nameAmong 61 = .ok (.ifCond .lt 42, 3) := by decide +kernel
theorem dX7_nameAmong_64 : decode cX7_nameAmong 64 = .ok (.aload_n 0, 1) := by decide +kernel
theorem dX7_nameAmong_65 : decode cX7_nameAmong 65 = .ok (.getfield 28, 3) := by decide +kernel
theorem dX7_nameAmong_68 : decode cX7_nameAmong 68 = .ok (.iload_n 3, 1) := by decide +kernel
theorem dX7_nameAmong_69 : decode cX7_nameAmong 69 = .ok (.iadd, 1) := by decide +kernel
theorem dX7_nameAmong_70 : decode cX7_nameAmong 70 = .ok (.aload_n 0, 1) := by decide +kernel
theorem dX7_nameAmong_71 : decode cX7_nameAmong 71 = .ok (.getfield 25, 3) := by decide +kernel
theorem dX7_nameAmong_74 : decode cX7_nameAmong 74 = .ok (.if_icmp .ge 29, 3) := by decide +kernel
theorem dX7_nameAmong_77 : decode cX7_nameAmong 77 = .ok (.aload_n 0, 1) := by decide +kernel
theorem dX7_nameAmong_78 : decode cX7_nameAmong 78 = .ok (.getfield 9, 3) := by decide +kernel
theorem dX7_nameAmong_81 : decode cX7_nameAmong 81 = .ok (.aload_n 0, 1) := by decide +kernel
theorem dX7_nameAmong_82 : decode cX7_nameAmong 82 = .ok (.getfield 28, 3) := by decide +kernel
theorem dX7_nameAmong_85 : decode cX7_nameAmong 85 = .ok (.iload_n 3, 1) := by decide +kernel
theorem dX7_nameAmong_86 : decode cX7_nameAmong 86 = .ok (.iadd, 1) := by decide +kernel
theorem dX7_nameAmong_87 : decode cX7_nameAmong 87 = .ok (.iaload, 1) := by decide +kernel
theorem dX7_nameAmong_88 : decode cX7_nameAmong 88 = .ok (.aload_n 1, 1) := by decide +kernel
theorem dX7_nameAmong_89 : decode cX7_nameAmong 89 = .ok (.iload 4, 2) := by decide +kernel
theorem dX7_nameAmong_91 : decode cX7_nameAmong 91 = .ok (.invokevirtual 65, 3) := by decide +kernel
theorem dX7_nameAmong_94 : decode cX7_nameAmong 94 = .ok (.if_icmp .ne 9, 3) := by decide +kernel
theorem dX7_nameAmong_97 : decode cX7_nameAmong 97 = .ok (.iinc 3 1, 3) := by decide +kernel
theorem dX7_nameAmong_100 : decode cX7_nameAmong 100 = .ok (.goto 5, 3) := by decide +kernel
theorem dX7_nameAmong_103 : decode cX7_nameAmong 103 = .ok (.iconst (-1), 1) := by decide +kernel
theorem dX7_nameAmong_104 : decode cX7_nameAmong 104 = .ok (.istore_n 3, 1) := by decide +kernel
theorem dX7_nameAmong_105 : decode cX7_nameAmong 105 = .ok (.iinc 4 1, 3) := by decide +kernel
theorem dX7_nameAmong_108 : decode cX7_nameAmong 108 = .ok (.goto (-91), 3) := by decide +kernel
theorem dX7_nameAmong_111 : decode cX7_nameAmong 111 = .ok (.iload_n 3, 1) := by decide +kernel
theorem dX7_nameAmong_112 : decode cX7_nameAmong 112 = .ok (.aload_n 0, 1) := by decide +kernel
theorem dX7_nameAmong_113 : decode cX7_nameAmong 113 = .ok (.getfield 25, 3) := by decide +kernel
theorem dX7_nameAmong_116 : decode cX7_nameAmong 116 = .ok (.aload_n 0, 1) := by decide +kernel
theorem dX7_nameAmong_117 : decode cX7_nameAmong 117 = .ok (.getfield 28, 3) := by decide +kernel
theorem dX7_nameAmong_120 : decode cX7_nameAmong 120 = .ok (.isub, 1) := by decide +kernel
theorem dX7_nameAmong_121 : decode cX7_nameAmong 121 = .ok (.if_icmp .ne 7, 3) := by decide +kernel
theorem dX7_nameAmong_124 : decode cX7_nameAmong 124 = .ok (.iload_n 2, 1) := by decide +kernel
theorem dX7_nameAmong_125 : decode cX7_nameAmong 125 = .ok (.goto 4, 3) := by decide +kernel
theorem dX7_nameAmong_128 : decode cX7_nameAmong 128 = .ok (.iconst (-1), 1) := by decide +kernel
theorem dX7_nameAmong_129 : decode cX7_nameAmong 129 = .ok (.ireturn, 1) := by decide +kernel
set_option maxRecDepth 20000 in
theorem ggX7_takeNumber_X7_fail : GoodIn wsX7_takeNumber wsX7_fail := goodIn_r _ [7, 8, 9, 36, 37, 38, 39, 40, 41, 42, 43] (by decide +kernel) (by decide +kernel)
set_option maxRecDepth 20000 in
theorem gX7_takeNumber_X7_fail : GoodIn wsX7_takeNumber (wsV RX7 69 RX7 yX7_fail wsX7_fail) := goodIn_app (goodIn_of _ (by decide +kernel)) ggX7_takeNumber_X7_fail
set_option maxRecDepth 20000 in
theorem ggX7_takeNumber_X7_advance : GoodIn wsX7_takeNumber wsX7_advance := goodIn_r _ [13, 14, 9, 15, 16, 1, 17, 18, 6, 19, 20, 21, 22, 23, 24, 25, 26, 27, 28, 29, 30, 2, 31, 32, 33, 34, 35, 36, 37, 38, 39, 40, 41, 42, 43] (by decide +kernel) (by decide +kernel)
set_option maxRecDepth 20000 in
theorem gX7_takeNumber_X7_advance : GoodIn wsX7_takeNumber (wsV RX7 72 RX7 yX7_advance wsX7_advance) := goodIn_app (goodIn_of _ (by decide +kernel)) ggX7_takeNumber_X7_advance
theorem dX7_takeNumber_0 : decode cX7_takeNumber 0 = .ok (.aload_n 0, 1) := by decide +kernel
theorem dX7_takeNumber_1 : decode cX7_takeNumber 1 = .ok (.getfield 31, 3) := by decide +kernel
theorem dX7_takeNumber_4 : decode cX7_takeNumber 4 = .ok (.iconst 2, 1) := by decide +kernel
theorem dX7_takeNumber_5 : decode cX7_takeNumber 5 = .ok (.if_icmp .eq 10, 3) := by decide +kernel
theorem dX7_takeNumber_8 : decode cX7_takeNumber 8 = .ok (.aload_n 0, 1) := by decide +kernel
theorem dX7_takeNumber_9 : decode cX7_takeNumber 9 = .ok (.iconst 0, 1) := by decide +kernel
theorem dX7_takeNumber_10 : decode cX7_takeNumber 10 = .ok (.invokevirtual 69, 3) := by decide +kernel
theorem dX7_takeNumber_13 : decode cX7_takeNumber 13 = .ok (.iconst (-1), 1) := by decide +kernel
theorem dX7_takeNumber_14 : decode cX7_takeNumber 14 = .ok (.ireturn, 1) := by decide +kernel
theorem dX7_takeNumber_15 : decode cX7_takeNumber 15 = .ok (.aload_n 0, 1) := by decide +kernel
theorem dX7_takeNumber_16 : decode cX7_takeNumber 16 = .ok (.getfield 51, 3) := by decide +kernel
theorem dX7_takeNumber_19 : decode cX7_takeNumber 19 = .ok (.iload_n 1, 1) := by decide +kernel
theorem dX7_takeNumber_20 : decode cX7_takeNumber 20 = .ok (.if_icmp .lt 11, 3) := by decide +kernel
theorem dX7_takeNumber_23 : decode cX7_takeNumber 23 = .ok (.aload_n 0, 1) := by decide +kernel
theorem dX7_takeNumber_24 : decode cX7_takeNumber 24 = .ok (.getfield 51, 3) := by decide +kernel
theorem dX7_takeNumber_27 : decode cX7_takeNumber 27 = .ok (.iload_n 2, 1) := by decide +kernel
theorem dX7_takeNumber_28 : decode cX7_takeNumber 28 = .ok (.if_icmp .le 10, 3) := by decide +kernel
theorem dX7_takeNumber_31 : decode cX7_takeNumber 31 = .ok (.aload_n 0, 1) := by decide +kernel
theorem dX7_takeNumber_32 : decode cX7_takeNumber 32 = .ok (.iconst 1, 1) := by decide +kernel
theorem dX7_takeNumber_33 : decode cX7_takeNumber 33 = .ok (.invokevirtual 69, 3) := by decide +kernel
theorem dX7_takeNumber_36 : decode cX7_takeNumber 36 = .ok (.iconst (-1), 1) := by decide +kernel
theorem dX7_takeNumber_37 : decode cX7_takeNumber 37 = .ok (.ireturn, 1) := by decide +kernel
theorem dX7_takeNumber_38 : decode cX7_takeNumber 38 = .ok (.aload_n 0, 1) := by decide +kernel
theorem dX7_takeNumber_39 : decode cX7_takeNumber 39 = .ok (.getfield 51, 3) := by decide +kernel
theorem dX7_takeNumber_42 : decode cX7_takeNumber 42 = .ok (.istore_n 3, 1) := by decide +kernel
theorem dX7_takeNumber_43 : decode cX7_takeNumber 43 = .ok (.aload_n 0, 1) := by decide +kernel
theorem dX7_takeNumber_44 : decode cX7_takeNumber 44 = .ok (.invokevirtual 72, 3) := by decide +kernel
theorem dX7_takeNumber_47 : decode cX7_takeNumber 47 = .ok (.iload_n 3, 1) := by decide +kernel
theorem dX7_takeNumber_48 : decode cX7_takeNumber 48 = .ok (.ireturn, 1) := by decide +kernel
set_option maxRecDepth 20000 in
theorem ggX7_goesOnToClause_X7_isSign : GoodIn wsX7_goesOnToClause wsX7_isSign := goodIn_r _ [7, 2, 8, 40, 41, 42, 43, 44, 45, 46, 47] (by decide +kernel) (by decide +kernel)
set_option maxRecDepth 20000 in
theorem gX7_goesOnToClause_X7_isSign : GoodIn wsX7_goesOnToClause (wsV RX7 75 RX7 yX7_isSign wsX7_isSign) := goodIn_app (goodIn_of _ (by decide +kernel)) ggX7_goesOnToClause_X7_isSign
set_option maxRecDepth 20000 in
theorem ggX7_goesOnToClause_X7_fail : GoodIn wsX7_goesOnToClause wsX7_fail := goodIn_r _ [12, 1, 13, 40, 41, 42, 43, 44, 45, 46, 47] (by decide +kernel) (by decide +kernel)
set_option maxRecDepth 20000 in
theorem gX7_goesOnToClause_X7_fail : GoodIn wsX7_goesOnToClause (wsV RX7 69 RX7 yX7_fail wsX7_fail) := goodIn_app (goodIn_of _ (by decide +kernel)) ggX7_goesOnToClause_X7_fail
set_option maxRecDepth 20000 in
theorem ggX7_goesOnToClause_X7_advance : GoodIn wsX7_goesOnToClause wsX7_advance := goodIn_r _ [17, 18, 13, 19, 20, 2, 21, 22, 6, 23, 24, 25, 26, 27, 28, 29, 30, 31, 32, 33, 34, 35, 36, 37, 38, 39, 8, 40, 41, 42, 43, 44, 45, 46, 47] (by decide +kernel) (by decide +kernel)
set_option maxRecDepth 20000 in
theorem gX7_goesOnToClause_X7_advance : GoodIn wsX7_goesOnToClause (wsV RX7 72 RX7 yX7_advance wsX7_advance) := goodIn_app (goodIn_of _ (by decide +kernel)) ggX7_goesOnToClause_X7_advance
theorem dX7_goesOnToClause_0 : decode cX7_goesOnToClause 0 = .ok (.aload_n 0, 1) := by decide +kernel
theorem dX7_goesOnToClause_1 : decode cX7_goesOnToClause 1 = .ok (.getfield 57, 3) := by decide +kernel
theorem dX7_goesOnToClause_4 : decode cX7_goesOnToClause 4 = .ok (.ifCond .ne 10, 3) := by decide +kernel
theorem dX7_goesOnToClause_7 : decode cX7_goesOnToClause 7 = .ok (.aload_n 0, 1) := by decide +kernel
theorem dX7_goesOnToClause_8 : decode cX7_goesOnToClause 8 = .ok (.getfield 31, 3) := by decide +kernel
theorem dX7_goesOnToClause_11 : decode cX7_goesOnToClause 11 = .ok (.ifCond .ne 5, 3) := by decide +kernel
theorem dX7_goesOnToClause_14 : decode cX7_goesOnToClause 14 = .ok (.iconst 0, 1) := by decide +kernel
theorem dX7_goesOnToClause_15 : decode cX7_goesOnToClause 15 = .ok (.ireturn, 1) := by decide +kernel
theorem dX7_goesOnToClause_16 : decode cX7_goesOnToClause 16 = .ok (.aload_n 0, 1) := by decide +kernel
theorem dX7_goesOnToClause_17 : decode cX7_goesOnToClause 17 = .ok (.bipush 59, 2) := by decide +kernel
theorem dX7_goesOnToClause_19 : decode cX7_goesOnToClause 19 = .ok (.invokevirtual 75, 3) := by decide +kernel
theorem dX7_goesOnToClause_22 : decode cX7_goesOnToClause 22 = .ok (.ifCond .ne 10, 3) := by decide +kernel
theorem dX7_goesOnToClause_25 : decode cX7_goesOnToClause 25 = .ok (.aload_n 0, 1) := by decide +kernel
theorem dX7_goesOnToClause_26 : decode cX7_goesOnToClause 26 = .ok (.iconst 0, 1) := by decide +kernel
theorem dX7_goesOnToClause_27 : decode cX7_goesOnToClause 27 = .ok (.invokevirtual 69, 3) := by decide +kernel
theorem dX7_goesOnToClause_30 : decode cX7_goesOnToClause 30 = .ok (.iconst 0, 1) := by decide +kernel
theorem dX7_goesOnToClause_31 : decode cX7_goesOnToClause 31 = .ok (.ireturn, 1) := by decide +kernel
theorem dX7_goesOnToClause_32 : decode cX7_goesOnToClause 32 = .ok (.aload_n 0, 1) := by decide +kernel
theorem dX7_goesOnToClause_33 : decode cX7_goesOnToClause 33 = .ok (.invokevirtual 72, 3) := by decide +kernel
theorem dX7_goesOnToClause_36 : decode cX7_goesOnToClause 36 = .ok (.iconst 1, 1) := by decide +kernel
theorem dX7_goesOnToClause_37 : decode cX7_goesOnToClause 37 = .ok (.ireturn, 1) := by decide +kernel
theorem dX8_init_0 : decode cX8_init 0 = .ok (.aload_n 0, 1) := by decide +kernel
theorem dX8_init_1 : decode cX8_init 1 = .ok (.invokespecial 3, 3) := by decide +kernel
theorem dX8_init_4 : decode cX8_init 4 = .ok (.aload_n 0, 1) := by decide +kernel
theorem dX8_init_5 : decode cX8_init 5 = .ok (.bipush 12, 2) := by decide +kernel
theorem dX8_init_7 : decode cX8_init 7 = .ok (.newarray .int, 2) := by decide +kernel
theorem dX8_init_9 : decode cX8_init 9 = .ok (.putfield 11, 3) := by decide +kernel
theorem dX8_init_12 : decode cX8_init 12 = .ok (.aload_n 0, 1) := by decide +kernel
theorem dX8_init_13 : decode cX8_init 13 = .ok (.bipush 12, 2) := by decide +kernel
theorem dX8_init_15 : decode cX8_init 15 = .ok (.newarray .int, 2) := by decide +kernel
theorem dX8_init_17 : decode cX8_init 17 = .ok (.putfield 15, 3) := by decide +kernel
theorem dX8_init_20 : decode cX8_init 20 = .ok (.aload_n 0, 1) := by decide +kernel
theorem dX8_init_21 : decode cX8_init 21 = .ok (.sipush 400, 3) := by decide +kernel
theorem dX8_init_24 : decode cX8_init 24 = .ok (.newarray .int, 2) := by decide +kernel
theorem dX8_init_26 : decode cX8_init 26 = .ok (.putfield 18, 3) := by decide +kernel
theorem dX8_init_29 : decode cX8_init 29 = .ok (.aload_n 0, 1) := by decide +kernel
theorem dX8_init_30 : decode cX8_init 30 = .ok (.bipush 60, 2) := by decide +kernel
theorem dX8_init_32 : decode cX8_init 32 = .ok (.newarray .long, 2) := by decide +kernel
theorem dX8_init_34 : decode cX8_init 34 = .ok (.putfield 21, 3) := by decide +kernel
theorem dX8_init_37 : decode cX8_init 37 = .ok (.return_, 1) := by decide +kernel
theorem dX8_clear_0 : decode cX8_clear 0 = .ok (.aload_n 0, 1) := by decide +kernel
theorem dX8_clear_1 : decode cX8_clear 1 = .ok (.iconst 0, 1) := by decide +kernel
theorem dX8_clear_2 : decode cX8_clear 2 = .ok (.putfield 25, 3) := by decide +kernel
theorem dX8_clear_5 : decode cX8_clear 5 = .ok (.aload_n 0, 1) := by decide +kernel
theorem dX8_clear_6 : decode cX8_clear 6 = .ok (.iconst 0, 1) := by decide +kernel
theorem dX8_clear_7 : decode cX8_clear 7 = .ok (.putfield 29, 3) := by decide +kernel
theorem dX8_clear_10 : decode cX8_clear 10 = .ok (.return_, 1) := by decide +kernel
theorem dX8_put_0 : decode cX8_put 0 = .ok (.aload_n 0, 1) := by decide +kernel
theorem dX8_put_1 : decode cX8_put 1 = .ok (.getfield 29, 3) := by decide +kernel
theorem dX8_put_4 : decode cX8_put 4 = .ok (.ifCond .lt 33, 3) := by decide +kernel
theorem dX8_put_7 : decode cX8_put 7 = .ok (.aload_n 0, 1) := by decide +kernel
theorem dX8_put_8 : decode cX8_put 8 = .ok (.getfield 29, 3) := by decide +kernel
theorem dX8_put_11 : decode cX8_put 11 = .ok (.sipush 400, 3) := by decide +kernel
theorem dX8_put_14 : decode cX8_put 14 = .ok (.if_icmp .ge 23, 3) := by decide +kernel
theorem dX8_put_17 : decode cX8_put 17 = .ok (.aload_n 0, 1) := by decide +kernel
theorem dX8_put_18 : decode cX8_put 18 = .ok (.getfield 18, 3) := by decide +kernel
theorem dX8_put_21 : decode cX8_put 21 = .ok (.aload_n 0, 1) := by decide +kernel
theorem dX8_put_22 : decode cX8_put 22 = .ok (.getfield 29, 3) := by decide +kernel
theorem dX8_put_25 : decode cX8_put 25 = .ok (.iload_n 1, 1) := by decide +kernel
theorem dX8_put_26 : decode cX8_put 26 = .ok (.iastore, 1) := by decide +kernel
theorem dX8_put_27 : decode cX8_put 27 = .ok (.aload_n 0, 1) := by decide +kernel
theorem dX8_put_28 : decode cX8_put 28 = .ok (.dup, 1) := by decide +kernel
theorem dX8_put_29 : decode cX8_put 29 = .ok (.getfield 29, 3) := by decide +kernel
theorem dX8_put_32 : decode cX8_put 32 = .ok (.iconst 1, 1) := by decide +kernel
theorem dX8_put_33 : decode cX8_put 33 = .ok (.iadd, 1) := by decide +kernel
theorem dX8_put_34 : decode cX8_put 34 = .ok (.putfield 29, 3) := by decide +kernel
theorem dX8_put_37 : decode cX8_put 37 = .ok (.return_, 1) := by decide +kernel
theorem dX8_addClause_0 : decode cX8_addClause 0 = .ok (.aload_n 0, 1) := by decide +kernel
theorem dX8_addClause_1 : decode cX8_addClause 1 = .ok (.getfield 25, 3) := by decide +kernel
theorem dX8_addClause_4 : decode cX8_addClause 4 = .ok (.ifCond .lt 45, 3) := by decide +kernel
theorem dX8_addClause_7 : decode cX8_addClause 7 = .ok (.aload_n 0, 1) := by decide +kernel
theorem dX8_addClause_8 : decode cX8_addClause 8 = .ok (.getfield 25, 3) := by decide +kernel
theorem dX8_addClause_11 : decode cX8_addClause 11 = .ok (.bipush 12, 2) := by decide +kernel
theorem dX8_addClause_13 : decode cX8_addClause 13 = .ok (.if_icmp .ge 36, 3) := by decide +kernel
theorem dX8_addClause_16 : decode cX8_addClause 16 = .ok (.aload_n 0, 1) := by decide +kernel
theorem dX8_addClause_17 : decode cX8_addClause 17 = .ok (.getfield 11, 3) := by decide +kernel
theorem dX8_addClause_20 : decode cX8_addClause 20 = .ok (.aload_n 0, 1) := by decide +kernel
theorem dX8_addClause_21 : decode cX8_addClause 21 = .ok (.getfield 25, 3) := by decide +kernel
theorem dX8_addClause_24 : decode cX8_addClause 24 = .ok (.iload_n 1, 1) := by decide +kernel
theorem dX8_addClause_25 : decode cX8_addClause 25 = .ok (.iastore, 1) := by decide +kernel
theorem dX8_addClause_26 : decode cX8_addClause 26 = .ok (.aload_n 0, 1) := by decide +kernel
theorem dX8_addClause_27 : decode cX8_addClause 27 = .ok (.getfield 15, 3) := by decide +kernel
theorem dX8_addClause_30 : decode cX8_addClause 30 = .ok (.aload_n 0, 1) := by decide +kernel
theorem dX8_addClause_31 : decode cX8_addClause 31 = .ok (.getfield 25, 3) := by decide +kernel
theorem dX8_addClause_34 : decode cX8_addClause 34 = .ok (.aload_n 0, 1) := by decide +kernel
theorem dX8_addClause_35 : decode cX8_addClause 35 = .ok (.getfield 29, 3) := by decide +kernel
theorem dX8_addClause_38 : decode cX8_addClause 38 = .ok (.iastore, 1) := by decide +kernel
theorem dX8_addClause_39 : decode cX8_addClause 39 = .ok (.aload_n 0, 1) := by decide +kernel
theorem dX8_addClause_40 : decode cX8_addClause 40 = .ok (.dup, 1) := by decide +kernel
theorem dX8_addClause_41 : decode cX8_addClause 41 = .ok (.getfield 25, 3) := by decide +kernel
theorem dX8_addClause_44 : decode cX8_addClause 44 = .ok (.iconst 1, 1) := by decide +kernel
theorem dX8_addClause_45 : decode cX8_addClause 45 = .ok (.iadd, 1) := by decide +kernel
theorem dX8_addClause_46 : decode cX8_addClause 46 = .ok (.putfield 25, 3) := by decide +kernel
theorem dX8_addClause_49 : decode cX8_addClause 49 = .ok (.return_, 1) := by decide +kernel
set_option maxRecDepth 20000 in
theorem ggX8_choose_X8_mayDo : GoodIn wsX8_choose wsX8_mayDo := goodIn_r _ [7, 8, 9, 10, 11, 12, 13, 14, 15, 16, 17, 18, 19, 20, 21, 22, 23, 24, 25, 26, 27, 28, 29, 30, 56, 57, 58, 59, 60, 61, 62, 63, 64, 65, 66, 67, 68, 69, 70, 71] (by decide +kernel) (by decide +kernel)
set_option maxRecDepth 20000 in
theorem gX8_choose_X8_mayDo : GoodIn wsX8_choose (va_wsS RX8 32 yX8_mayDo wsX8_mayDo) := goodIn_app (goodIn_of _ (by decide +kernel)) ggX8_choose_X8_mayDo
set_option maxRecDepth 20000 in
theorem ggX8_choose_X8_holds : GoodIn wsX8_choose wsX8_holds := goodIn_r _ [34, 35, 36, 37, 38, 39, 11, 40, 15, 16, 17, 14, 22, 41, 42, 43, 44, 45, 6, 46, 47, 48, 49, 50, 51, 52, 53, 54, 55, 56, 57, 58, 59, 60, 61, 62, 63, 64, 65] (by decide +kernel) (by decide +kernel)
set_option maxRecDepth 20000 in
theorem gX8_choose_X8_holds : GoodIn wsX8_choose (wsV RX8 36 RX8 yX8_holds wsX8_holds) := goodIn_app (goodIn_of _ (by decide +kernel)) ggX8_choose_X8_holds
theorem dX8_choose_0 : decode cX8_choose 0 = .ok (.iconst 0, 1) := by decide +kernel
theorem dX8_choose_1 : decode cX8_choose 1 = .ok (.istore_n 3, 1) := by decide +kernel
theorem dX8_choose_2 : decode cX8_choose 2 = .ok (.iconst 0, 1) := by decide +kernel
theorem dX8_choose_3 : decode cX8_choose 3 = .ok (.istore 4, 2) := by decide +kernel
theorem dX8_choose_5 : decode cX8_choose 5 = .ok (.iload 4, 2) := by decide +kernel
theorem dX8_choose_7 : decode cX8_choose 7 = .ok (.aload_n 0, 1) := by decide +kernel
theorem dX8_choose_8 : decode cX8_choose 8 = .ok (.getfield 25, 3) := by decide +kernel
theorem dX8_choose_11 : decode cX8_choose 11 = .ok (.if_icmp .ge 63, 3) := by decide +kernel
theorem dX8_choose_14 : decode cX8_choose 14 = .ok (.iload 4, 2) := by decide +kernel
theorem dX8_choose_16 : decode cX8_choose 16 = .ok (.bipush 12, 2) := by decide +kernel
theorem dX8_choose_18 : decode cX8_choose 18 = .ok (.if_icmp .ge 56, 3) := by decide +kernel
theorem dX8_choose_21 : decode cX8_choose 21 = .ok (.aload_n 0, 1) := by decide +kernel
theorem dX8_choose_22 : decode cX8_choose 22 = .ok (.getfield 11, 3) := by decide +kernel
theorem dX8_choose_25 : decode cX8_choose 25 = .ok (.iload 4, 2) := by decide +kernel
theorem dX8_choose_27 : decode cX8_choose 27 = .ok (.iaload, 1) := by decide +kernel
theorem dX8_choose_28 : decode cX8_choose 28 = .ok (.aload_n 1, 1) := by decide +kernel
theorem dX8_choose_29 : decode cX8_choose 29 = .ok (.aload_n 2, 1) := by decide +kernel
theorem dX8_choose_30 : decode cX8_choose 30 = .ok (.invokestatic 32, 3) := by decide +kernel
theorem dX8_choose_33 : decode cX8_choose 33 = .ok (.ifCond .eq 27, 3) := by decide +kernel
theorem dX8_choose_36 : decode cX8_choose 36 = .ok (.aload_n 0, 1) := by decide +kernel
theorem dX8_choose_37 : decode cX8_choose 37 = .ok (.iload_n 3, 1) := by decide +kernel
theorem dX8_choose_38 : decode cX8_choose 38 = .ok (.aload_n 0, 1) := by decide +kernel
theorem dX8_choose_39 : decode cX8_choose 39 = .ok (.getfield 15, 3) := by decide +kernel
theorem dX8_choose_42 : decode cX8_choose 42 = .ok (.iload 4, 2) := by decide +kernel
theorem dX8_choose_44 : decode cX8_choose 44 = .ok (.iaload, 1) := by decide +kernel
theorem dX8_choose_45 : decode cX8_choose 45 = .ok (.aload_n 2, 1) := by decide +kernel
theorem dX8_choose_46 : decode cX8_choose 46 = .ok (.invokevirtual 36, 3) := by decide +kernel
theorem dX8_choose_49 : decode cX8_choose 49 = .ok (.ifCond .eq 11, 3) := by decide +kernel
theorem dX8_choose_52 : decode cX8_choose 52 = .ok (.aload_n 0, 1) := by decide +kernel
theorem dX8_choose_53 : decode cX8_choose 53 = .ok (.getfield 11, 3) := by decide +kernel
theorem dX8_choose_56 : decode cX8_choose 56 = .ok (.iload 4, 2) := by decide +kernel
theorem dX8_choose_58 : decode cX8_choose 58 = .ok (.iaload, 1) := by decide +kernel
theorem dX8_choose_59 : decode cX8_choose 59 = .ok (.ireturn, 1) := by decide +kernel
theorem dX8_choose_60 : decode cX8_choose 60 = .ok (.aload_n 0, 1) := by decide +kernel
theorem dX8_choose_61 : decode cX8_choose 61 = .ok (.getfield 15, 3) := by decide +kernel
theorem dX8_choose_64 : decode cX8_choose 64 = .ok (.iload 4, 2) := by decide +kernel
theorem dX8_choose_66 : decode cX8_choose 66 = .ok (.iaload, 1) := by decide +kernel
theorem dX8_choose_67 : decode cX8_choose 67 = .ok (.istore_n 3, 1) := by decide +kernel
theorem dX8_choose_68 : decode cX8_choose 68 = .ok (.iinc 4 1, 3) := by decide +kernel
theorem dX8_choose_71 : decode cX8_choose 71 = .ok (.goto (-66), 3) := by decide +kernel
theorem dX8_choose_74 : decode cX8_choose 74 = .ok (.iconst (-1), 1) := by decide +kernel
theorem dX8_choose_75 : decode cX8_choose 75 = .ok (.ireturn, 1) := by decide +kernel
set_option maxRecDepth 20000 in
theorem ggX8_mayDo_X6_mayThrow : GoodIn wsX8_mayDo wsX6_mayThrow := goodIn_r _ [5, 6, 7, 8, 9, 10, 24, 25, 26, 27, 28, 29, 30, 31, 32, 33] (by decide +kernel) (by decide +kernel)
set_option maxRecDepth 20000 in
theorem gX8_mayDo_X6_mayThrow : GoodIn wsX8_mayDo (wsV RX8 40 RX6 yX6_mayThrow wsX6_mayThrow) := goodIn_app (goodIn_of _ (by decide +kernel)) ggX8_mayDo_X6_mayThrow
set_option maxRecDepth 20000 in
theorem ggX8_mayDo_X6_maySay : GoodIn wsX8_mayDo wsX6_maySay := goodIn_r _ [14, 6, 15, 8, 9, 16, 17, 18, 19, 20, 21, 22, 23, 24, 25, 26, 27, 28, 29, 30, 31, 32, 33, 34, 35, 36, 37, 38, 39] (by decide +kernel) (by decide +kernel)
set_option maxRecDepth 20000 in
theorem gX8_mayDo_X6_maySay : GoodIn wsX8_mayDo (wsV RX8 46 RX6 yX6_maySay wsX6_maySay) := goodIn_app (goodIn_of _ (by decide +kernel)) ggX8_mayDo_X6_maySay
theorem dX8_mayDo_0 : decode cX8_mayDo 0 = .ok (.iload_n 0, 1) := by decide +kernel
theorem dX8_mayDo_1 : decode cX8_mayDo 1 = .ok (.iconst (-1), 1) := by decide +kernel
theorem dX8_mayDo_2 : decode cX8_mayDo 2 = .ok (.if_icmp .ne 5, 3) := by decide +kernel
theorem dX8_mayDo_5 : decode cX8_mayDo 5 = .ok (.iconst 1, 1) := by decide +kernel
theorem dX8_mayDo_6 : decode cX8_mayDo 6 = .ok (.ireturn, 1) := by decide +kernel
theorem dX8_mayDo_7 : decode cX8_mayDo 7 = .ok (.iload_n 0, 1) := by decide +kernel
theorem dX8_mayDo_8 : decode cX8_mayDo 8 = .ok (.iconst 4, 1) := by decide +kernel
theorem dX8_mayDo_9 : decode cX8_mayDo 9 = .ok (.if_icmp .ne 10, 3) := by decide +kernel
theorem dX8_mayDo_12 : decode cX8_mayDo 12 = .ok (.aload_n 2, 1) := by decide +kernel
theorem dX8_mayDo_13 : decode cX8_mayDo 13 = .ok (.invokevirtual 40, 3) := by decide +kernel
theorem dX8_mayDo_16 : decode cX8_mayDo 16 = .ok (.goto 9, 3) := by decide +kernel
theorem dX8_mayDo_19 : decode cX8_mayDo 19 = .ok (.aload_n 2, 1) := by decide +kernel
theorem dX8_mayDo_20 : decode cX8_mayDo 20 = .ok (.aload_n 1, 1) := by decide +kernel
theorem dX8_mayDo_21 : decode cX8_mayDo 21 = .ok (.iload_n 0, 1) := by decide +kernel
theorem dX8_mayDo_22 : decode cX8_mayDo 22 = .ok (.invokevirtual 46, 3) := by decide +kernel
theorem dX8_mayDo_25 : decode cX8_mayDo 25 = .ok (.ireturn, 1) := by decide +kernel
set_option maxRecDepth 20000 in
theorem ggX8_holds_X6_ownWord : GoodIn wsX8_holds wsX6_ownWord := goodIn_r _ [7, 8, 9, 10, 11, 12, 13, 14, 15, 29, 30, 31, 32, 33, 34, 35, 36, 37, 38] (by decide +kernel) (by decide +kernel)
set_option maxRecDepth 20000 in
theorem gX8_holds_X6_ownWord : GoodIn wsX8_holds (wsV RX8 50 RX6 yX6_ownWord wsX6_ownWord) := goodIn_app (goodIn_of _ (by decide +kernel)) ggX8_holds_X6_ownWord
set_option maxRecDepth 20000 in
theorem ggX8_holds_X8_joined : GoodIn wsX8_holds wsX8_joined := goodIn_r _ [19, 20, 21, 18, 22] (by decide +kernel) (by decide +kernel)
set_option maxRecDepth 20000 in
theorem gX8_holds_X8_joined : GoodIn wsX8_holds (va_wsS RX8 54 yX8_joined wsX8_joined) := goodIn_app (goodIn_of _ (by decide +kernel)) ggX8_holds_X8_joined
theorem dX8_holds_0 : decode cX8_holds 0 = .ok (.iconst 0, 1) := by decide +kernel
theorem dX8_holds_1 : decode cX8_holds 1 = .ok (.istore 4, 2) := by decide +kernel
theorem dX8_holds_3 : decode cX8_holds 3 = .ok (.iload_n 1, 1) := by decide +kernel
theorem dX8_holds_4 : decode cX8_holds 4 = .ok (.istore 5, 2) := by decide +kernel
theorem dX8_holds_6 : decode cX8_holds 6 = .ok (.iload 5, 2) := by decide +kernel
theorem dX8_holds_8 : decode cX8_holds 8 = .ok (.iload_n 2, 1) := by decide +kernel
theorem dX8_holds_9 : decode cX8_holds 9 = .ok (.if_icmp .ge 144, 3) := by decide +kernel
theorem dX8_holds_12 : decode cX8_holds 12 = .ok (.iload 5, 2) := by decide +kernel
theorem dX8_holds_14 : decode cX8_holds 14 = .ok (.sipush 400, 3) := by decide +kernel
theorem dX8_holds_17 : decode cX8_holds 17 = .ok (.if_icmp .ge 136, 3) := by decide +kernel
theorem dX8_holds_20 : decode cX8_holds 20 = .ok (.aload_n 0, 1) := by decide +kernel
theorem dX8_holds_21 : decode cX8_holds 21 = .ok (.getfield 18, 3) := by decide +kernel
theorem dX8_holds_24 : decode cX8_holds 24 = .ok (.iload 5, 2) := by decide +kernel
theorem dX8_holds_26 : decode cX8_holds 26 = .ok (.iaload, 1) := by decide +kernel
theorem dX8_holds_27 : decode cX8_holds 27 = .ok (.istore 6, 2) := by decide +kernel
theorem dX8_holds_29 : decode cX8_holds 29 = .ok (.iload 6, 2) := by decide +kernel
theorem dX8_holds_31 : decode cX8_holds 31 = .ok (.bipush (-9), 2) := by decide +kernel
theorem dX8_holds_33 : decode cX8_holds 33 = .ok (.if_icmp .lt 40, 3) := by decide +kernel
theorem dX8_holds_36 : decode cX8_holds 36 = .ok (.iload 4, 2) := by decide +kernel
theorem dX8_holds_38 : decode cX8_holds 38 = .ok (.bipush 60, 2) := by decide +kernel
theorem dX8_holds_40 : decode cX8_holds 40 = .ok (.if_icmp .ge 107, 3) := by decide +kernel
theorem dX8_holds_43 : decode cX8_holds 43 = .ok (.aload_n 0, 1) := by decide +kernel
theorem dX8_holds_44 : decode cX8_holds 44 = .ok (.getfield 21, 3) := by decide +kernel
theorem dX8_holds_47 : decode cX8_holds 47 = .ok (.iload 4, 2) := by decide +kernel
theorem dX8_holds_49 : decode cX8_holds 49 = .ok (.iload 6, 2) := by decide +kernel
theorem dX8_holds_51 : decode cX8_holds 51 = .ok (.ifCond .lt 9, 3) := by decide +kernel
theorem dX8_holds_54 : decode cX8_holds 54 = .ok (.iload 6, 2) := by decide +kernel
theorem dX8_holds_56 : decode cX8_holds 56 = .ok (.i2l, 1) := by decide +kernel
theorem dX8_holds_57 : decode cX8_holds 57 = .ok (.goto 9, 3) := by decide +kernel
theorem dX8_holds_60 : decode cX8_holds 60 = .ok (.aload_n 3, 1) := by decide +kernel
theorem dX8_holds_61 : decode cX8_holds 61 = .ok (.iload 6, 2) := by decide +kernel
theorem dX8_holds_63 : decode cX8_holds 63 = .ok (.invokevirtual 50, 3) := by decide +kernel
theorem dX8_holds_66 : decode cX8_holds 66 = .ok (.lastore, 1) := by decide +kernel
theorem dX8_holds_67 : decode cX8_holds 67 = .ok (.iinc 4 1, 3) := by decide +kernel
theorem dX8_holds_70 : decode cX8_holds 70 = .ok (.goto 77, 3) := by decide +kernel
theorem dX8_holds_73 : decode cX8_holds 73 = .ok (.iload 6, 2) := by decide +kernel
theorem dX8_holds_75 : decode cX8_holds 75 = .ok (.bipush (-19), 2) := by decide +kernel
theorem dX8_holds_77 : decode cX8_holds 77 = .ok (.if_icmp .ne 31, 3) := by decide +kernel
theorem dX8_holds_80 : decode cX8_holds 80 = .ok (.iload 4, 2) := by decide +kernel
theorem dX8_holds_82 : decode cX8_holds 82 = .ok (.ifCond .le 65, 3) := by decide +kernel
theorem dX8_holds_85 : decode cX8_holds 85 = .ok (.aload_n 0, 1) := by decide +kernel
theorem dX8_holds_86 : decode cX8_holds 86 = .ok (.getfield 21, 3) := by decide +kernel
theorem dX8_holds_89 : decode cX8_holds 89 = .ok (.iload 4, 2) := by decide +kernel
theorem dX8_holds_91 : decode cX8_holds 91 = .ok (.iconst 1, 1) := by decide +kernel
theorem dX8_holds_92 : decode cX8_holds 92 = .ok (.isub, 1) := by decide +kernel
theorem dX8_holds_93 : decode cX8_holds 93 = .ok (.lconst 1, 1) := by decide +kernel
theorem dX8_holds_94 : decode cX8_holds 94 = .ok (.aload_n 0, 1) := by decide +kernel
theorem dX8_holds_95 : decode cX8_holds 95 = .ok (.getfield 21, 3) := by decide +kernel
theorem dX8_holds_98 : decode cX8_holds 98 = .ok (.iload 4, 2) := by decide +kernel
theorem dX8_holds_100 : decode cX8_holds 100 = .ok (.iconst 1, 1) := by decide +kernel
theorem dX8_holds_101 : decode cX8_holds 101 = .ok (.isub, 1) := by decide +kernel
theorem dX8_holds_102 : decode cX8_holds 102 = .ok (.laload, 1) := by decide +kernel
theorem dX8_holds_103 : decode cX8_holds 103 = .ok (.lsub, 1) := by decide +kernel
theorem dX8_holds_104 : decode cX8_holds 104 = .ok (.lastore, 1) := by decide +kernel
theorem dX8_holds_105 : decode cX8_holds 105 = .ok (.goto 42, 3) := by decide +kernel
theorem dX8_holds_108 : decode cX8_holds 108 = .ok (.iload 4, 2) := by decide +kernel
theorem dX8_holds_110 : decode cX8_holds 110 = .ok (.iconst 1, 1) := by decide +kernel
theorem dX8_holds_111 : decode cX8_holds 111 = .ok (.if_icmp .le 36, 3) := by decide +kernel
theorem dX8_holds_114 : decode cX8_holds 114 = .ok (.iinc 4 (-1), 3) := by decide +kernel
theorem dX8_holds_117 : decode cX8_holds 117 = .ok (.aload_n 0, 1) := by decide +kernel
theorem dX8_holds_118 : decode cX8_holds 118 = .ok (.getfield 21, 3) := by decide +kernel
theorem dX8_holds_121 : decode cX8_holds 121 = .ok (.iload 4, 2) := by decide +kernel
theorem dX8_holds_123 : decode cX8_holds 123 = .ok (.iconst 1, 1) := by decide +kernel
theorem dX8_holds_124 : decode cX8_holds 124 = .ok (.isub, 1) := by decide +kernel
theorem dX8_holds_125 : decode cX8_holds 125 = .ok (.iload 6, 2) := by decide +kernel
theorem dX8_holds_127 : decode cX8_holds 127 = .ok (.aload_n 0, 1) := by decide +kernel
theorem dX8_holds_128 : decode cX8_holds 128 = .ok (.getfield 21, 3) := by decide +kernel
theorem dX8_holds_131 : decode cX8_holds 131 = .ok (.iload 4, 2) := by decide +kernel
theorem dX8_holds_133 : decode cX8_holds 133 = .ok (.iconst 1, 1) := by decide +kernel
theorem dX8_holds_134 : decode cX8_holds 134 = .ok (.isub, 1) := by decide +kernel
theorem dX8_holds_135 : decode cX8_holds 135 = .ok (.laload, 1) := by decide +kernel
theorem dX8_holds_136 : decode cX8_holds 136 = .ok (.aload_n 0, 1) := by decide +kernel
theorem dX8_holds_137 : decode cX8_holds 137 = .ok (.getfield 21, 3) := by decide +kernel
theorem dX8_holds_140 : decode cX8_holds 140 = .ok (.iload 4, 2) := by decide +kernel
theorem dX8_holds_142 : decode cX8_holds 142 = .ok (.laload, 1) := by decide +kernel
theorem dX8_holds_143 : decode cX8_holds 143 = .ok (.invokestatic 54, 3) := by decide +kernel
theorem dX8_holds_146 : decode cX8_holds 146 = .ok (.lastore, 1) := by decide +kernel
theorem dX8_holds_147 : decode cX8_holds 147 = .ok (.iinc 5 1, 3) := by decide +kernel
theorem dX8_holds_150 : decode cX8_holds 150 = .ok (.goto (-144), 3) := by decide +kernel
theorem dX8_holds_153 : decode cX8_holds 153 = .ok (.iload 4, 2) := by decide +kernel
theorem dX8_holds_155 : decode cX8_holds 155 = .ok (.ifCond .eq 14, 3) := by decide +kernel
theorem dX8_holds_158 : decode cX8_holds 158 = .ok (.aload_n 0, 1) := by decide +kernel
theorem dX8_holds_159 : decode cX8_holds 159 = .ok (.getfield 21, 3) := by decide +kernel
theorem dX8_holds_162 : decode cX8_holds 162 = .ok (.iconst 0, 1) := by decide +kernel
theorem dX8_holds_163 : decode cX8_holds 163 = .ok (.laload, 1) := by decide +kernel
theorem dX8_holds_164 : decode cX8_holds 164 = .ok (.lconst 0, 1) := by decide +kernel
theorem dX8_holds_165 : decode cX8_holds 165 = .ok (.lcmp, 1) := by decide +kernel
theorem dX8_holds_166 : decode cX8_holds 166 = .ok (.ifCond .eq 7, 3) := by decide +kernel
theorem dX8_holds_169 : decode cX8_holds 169 = .ok (.iconst 1, 1) := by decide +kernel
theorem dX8_holds_170 : decode cX8_holds 170 = .ok (.goto 4, 3) := by decide +kernel
theorem dX8_holds_173 : decode cX8_holds 173 = .ok (.iconst 0, 1) := by decide +kernel
theorem dX8_holds_174 : decode cX8_holds 174 = .ok (.ireturn, 1) := by decide +kernel
set_option maxRecDepth 20000 in
theorem ggX8_joined_X8_compares : GoodIn wsX8_joined wsX8_compares := goodIn_r _ [4] (by decide +kernel) (by decide +kernel)
set_option maxRecDepth 20000 in
theorem gX8_joined_X8_compares : GoodIn wsX8_joined (va_wsS RX8 58 yX8_compares wsX8_compares) := goodIn_app (goodIn_of _ (by decide +kernel)) ggX8_joined_X8_compares
theorem dX8_joined_0 : decode cX8_joined 0 = .ok (.iload_n 0, 1) := by decide +kernel
theorem dX8_joined_1 : decode cX8_joined 1 = .ok (.tableswitch 97 (-21) (-10) #[93, 89, 97, 97, 97, 97, 97, 97, 75, 71, 67, 63], 63) := by decide +kernel
theorem dX8_joined_64 : decode cX8_joined 64 = .ok (.lload_n 1, 1) := by decide +kernel
theorem dX8_joined_65 : decode cX8_joined 65 = .ok (.lload_n 3, 1) := by decide +kernel
theorem dX8_joined_66 : decode cX8_joined 66 = .ok (.ladd, 1) := by decide +kernel
theorem dX8_joined_67 : decode cX8_joined 67 = .ok (.lreturn, 1) := by decide +kernel
theorem dX8_joined_68 : decode cX8_joined 68 = .ok (.lload_n 1, 1) := by decide +kernel
theorem dX8_joined_69 : decode cX8_joined 69 = .ok (.lload_n 3, 1) := by decide +kernel
theorem dX8_joined_70 : decode cX8_joined 70 = .ok (.lsub, 1) := by decide +kernel
theorem dX8_joined_71 : decode cX8_joined 71 = .ok (.lreturn, 1) := by decide +kernel
theorem dX8_joined_72 : decode cX8_joined 72 = .ok (.lload_n 1, 1) := by decide +kernel
theorem dX8_joined_73 : decode cX8_joined 73 = .ok (.lload_n 3, 1) := by decide +kernel
theorem dX8_joined_74 : decode cX8_joined 74 = .ok (.lmul, 1) := by decide +kernel
theorem dX8_joined_75 : decode cX8_joined 75 = .ok (.lreturn, 1) := by decide +kernel
theorem dX8_joined_76 : decode cX8_joined 76 = .ok (.lload_n 3, 1) := by decide +kernel
theorem dX8_joined_77 : decode cX8_joined 77 = .ok (.lconst 0, 1) := by decide +kernel
theorem dX8_joined_78 : decode cX8_joined 78 = .ok (.lcmp, 1) := by decide +kernel
theorem dX8_joined_79 : decode cX8_joined 79 = .ok (.ifCond .ne 7, 3) := by decide +kernel
theorem dX8_joined_82 : decode cX8_joined 82 = .ok (.lconst 0, 1) := by decide +kernel
theorem dX8_joined_83 : decode cX8_joined 83 = .ok (.goto 6, 3) := by decide +kernel
theorem dX8_joined_86 : decode cX8_joined 86 = .ok (.lload_n 1, 1) := by decide +kernel
theorem dX8_joined_87 : decode cX8_joined 87 = .ok (.lload_n 3, 1) := by decide +kernel
theorem dX8_joined_88 : decode cX8_joined 88 = .ok (.ldiv, 1) := by decide +kernel
theorem dX8_joined_89 : decode cX8_joined 89 = .ok (.lreturn, 1) := by decide +kernel
theorem dX8_joined_90 : decode cX8_joined 90 = .ok (.lload_n 1, 1) := by decide +kernel
theorem dX8_joined_91 : decode cX8_joined 91 = .ok (.lload_n 3, 1) := by decide +kernel
theorem dX8_joined_92 : decode cX8_joined 92 = .ok (.land, 1) := by decide +kernel
theorem dX8_joined_93 : decode cX8_joined 93 = .ok (.lreturn, 1) := by decide +kernel
theorem dX8_joined_94 : decode cX8_joined 94 = .ok (.lload_n 1, 1) := by decide +kernel
theorem dX8_joined_95 : decode cX8_joined 95 = .ok (.lload_n 3, 1) := by decide +kernel
theorem dX8_joined_96 : decode cX8_joined 96 = .ok (.lor, 1) := by decide +kernel
theorem dX8_joined_97 : decode cX8_joined 97 = .ok (.lreturn, 1) := by decide +kernel
theorem dX8_joined_98 : decode cX8_joined 98 = .ok (.iload_n 0, 1) := by decide +kernel
theorem dX8_joined_99 : decode cX8_joined 99 = .ok (.lload_n 1, 1) := by decide +kernel
theorem dX8_joined_100 : decode cX8_joined 100 = .ok (.lload_n 3, 1) := by decide +kernel
theorem dX8_joined_101 : decode cX8_joined 101 = .ok (.invokestatic 58, 3) := by decide +kernel
theorem dX8_joined_104 : decode cX8_joined 104 = .ok (.ifCond .eq 7, 3) := by decide +kernel
theorem dX8_joined_107 : decode cX8_joined 107 = .ok (.lconst 1, 1) := by decide +kernel
theorem dX8_joined_108 : decode cX8_joined 108 = .ok (.goto 4, 3) := by decide +kernel
theorem dX8_joined_111 : decode cX8_joined 111 = .ok (.lconst 0, 1) := by decide +kernel
theorem dX8_joined_112 : decode cX8_joined 112 = .ok (.lreturn, 1) := by decide +kernel
theorem dX8_compares_0 : decode cX8_compares 0 = .ok (.iload_n 0, 1) := by decide +kernel
theorem dX8_compares_1 : decode cX8_compares 1 = .ok (.tableswitch 79 (-17) (-14) #[67, 55, 43, 31], 31) := by decide +kernel
theorem dX8_compares_32 : decode cX8_compares 32 = .ok (.lload_n 1, 1) := by decide +kernel
theorem dX8_compares_33 : decode cX8_compares 33 = .ok (.lload_n 3, 1) := by decide +kernel
theorem dX8_compares_34 : decode cX8_compares 34 = .ok (.lcmp, 1) := by decide +kernel
theorem dX8_compares_35 : decode cX8_compares 35 = .ok (.ifCond .ge 7, 3) := by decide +kernel
theorem dX8_compares_38 : decode cX8_compares 38 = .ok (.iconst 1, 1) := by decide +kernel
theorem dX8_compares_39 : decode cX8_compares 39 = .ok (.goto 4, 3) := by decide +kernel
theorem dX8_compares_42 : decode cX8_compares 42 = .ok (.iconst 0, 1) := by decide +kernel
theorem dX8_compares_43 : decode cX8_compares 43 = .ok (.ireturn, 1) := by decide +kernel
theorem dX8_compares_44 : decode cX8_compares 44 = .ok (.lload_n 1, 1) := by decide +kernel
theorem dX8_compares_45 : decode cX8_compares 45 = .ok (.lload_n 3, 1) := by decide +kernel
theorem dX8_compares_46 : decode cX8_compares 46 = .ok (.lcmp, 1) := by decide +kernel
theorem dX8_compares_47 : decode cX8_compares 47 = .ok (.ifCond .gt 7, 3) := by decide +kernel
theorem dX8_compares_50 : decode cX8_compares 50 = .ok (.iconst 1, 1) := by decide +kernel
theorem dX8_compares_51 : decode cX8_compares 51 = .ok (.goto 4, 3) := by decide +kernel
theorem dX8_compares_54 : decode cX8_compares 54 = .ok (.iconst 0, 1) := by decide +kernel
theorem dX8_compares_55 : decode cX8_compares 55 = .ok (.ireturn, 1) := by decide +kernel
theorem dX8_compares_56 : decode cX8_compares 56 = .ok (.lload_n 1, 1) := by decide +kernel
theorem dX8_compares_57 : decode cX8_compares 57 = .ok (.lload_n 3, 1) := by decide +kernel
theorem dX8_compares_58 : decode cX8_compares 58 = .ok (.lcmp, 1) := by decide +kernel
theorem dX8_compares_59 : decode cX8_compares 59 = .ok (.ifCond .ne 7, 3) := by decide +kernel
theorem dX8_compares_62 : decode cX8_compares 62 = .ok (.iconst 1, 1) := by decide +kernel
theorem dX8_compares_63 : decode cX8_compares 63 = .ok (.goto 4, 3) := by decide +kernel
theorem dX8_compares_66 : decode cX8_compares 66 = .ok (.iconst 0, 1) := by decide +kernel
theorem dX8_compares_67 : decode cX8_compares 67 = .ok (.ireturn, 1) := by decide +kernel
theorem dX8_compares_68 : decode cX8_compares 68 = .ok (.lload_n 1, 1) := by decide +kernel
theorem dX8_compares_69 : decode cX8_compares 69 = .ok (.lload_n 3, 1) := by decide +kernel
theorem dX8_compares_70 : decode cX8_compares 70 = .ok (.lcmp, 1) := by decide +kernel
theorem dX8_compares_71 : decode cX8_compares 71 = .ok (.ifCond .lt 7, 3) := by decide +kernel
theorem dX8_compares_74 : decode cX8_compares 74 = .ok (.iconst 1, 1) := by decide +kernel
theorem dX8_compares_75 : decode cX8_compares 75 = .ok (.goto 4, 3) := by decide +kernel
theorem dX8_compares_78 : decode cX8_compares 78 = .ok (.iconst 0, 1) := by decide +kernel
theorem dX8_compares_79 : decode cX8_compares 79 = .ok (.ireturn, 1) := by decide +kernel
theorem dX8_compares_80 : decode cX8_compares 80 = .ok (.lload_n 1, 1) := by decide +kernel
theorem dX8_compares_81 : decode cX8_compares 81 = .ok (.lload_n 3, 1) := by decide +kernel
theorem dX8_compares_82 : decode cX8_compares 82 = .ok (.lcmp, 1) := by decide +kernel
theorem dX8_compares_83 : decode cX8_compares 83 = .ok (.ifCond .le 7, 3) := by decide +kernel
theorem dX8_compares_86 : decode cX8_compares 86 = .ok (.iconst 1, 1) := by decide +kernel
theorem dX8_compares_87 : decode cX8_compares 87 = .ok (.goto 4, 3) := by decide +kernel
theorem dX8_compares_90 : decode cX8_compares 90 = .ok (.iconst 0, 1) := by decide +kernel
theorem dX8_compares_91 : decode cX8_compares 91 = .ok (.ireturn, 1) := by decide +kernel
theorem dX9_init_0 : decode cX9_init 0 = .ok (.aload_n 0, 1) := by decide +kernel
theorem dX9_init_1 : decode cX9_init 1 = .ok (.invokespecial 3, 3) := by decide +kernel
theorem dX9_init_4 : decode cX9_init 4 = .ok (.aload_n 0, 1) := by decide +kernel
theorem dX9_init_5 : decode cX9_init 5 = .ok (.aload_n 1, 1) := by decide +kernel
theorem dX9_init_6 : decode cX9_init 6 = .ok (.putfield 9, 3) := by decide +kernel
theorem dX9_init_9 : decode cX9_init 9 = .ok (.aload_n 0, 1) := by decide +kernel
theorem dX9_init_10 : decode cX9_init 10 = .ok (.aload_n 2, 1) := by decide +kernel
theorem dX9_init_11 : decode cX9_init 11 = .ok (.putfield 15, 3) := by decide +kernel
theorem dX9_init_14 : decode cX9_init 14 = .ok (.return_, 1) := by decide +kernel
set_option maxRecDepth 20000 in
theorem ggX9_read_X8_clear : GoodIn wsX9_read wsX8_clear := goodIn_r _ [8, 9, 10, 177, 178, 179, 180, 181, 182] (by decide +kernel) (by decide +kernel)
set_option maxRecDepth 20000 in
theorem gX9_read_X8_clear : GoodIn wsX9_read (wsV RX9 19 RX8 yX8_clear wsX8_clear) := goodIn_app (goodIn_of _ (by decide +kernel)) ggX9_read_X8_clear
set_option maxRecDepth 20000 in
theorem ggX9_read_X7_advance : GoodIn wsX9_read wsX7_advance := goodIn_r _ [15, 16, 17, 18, 19, 20, 21, 22, 14, 23, 24, 25, 26, 27, 28, 29, 30, 31, 32, 33, 34, 35, 36, 37, 38, 39, 40, 169, 170, 171, 172, 173, 174, 175, 176] (by decide +kernel) (by decide +kernel)
set_option maxRecDepth 20000 in
theorem gX9_read_X7_advance : GoodIn wsX9_read (wsV RX9 24 RX7 yX7_advance wsX7_advance) := goodIn_app (goodIn_of _ (by decide +kernel)) ggX9_read_X7_advance
set_option maxRecDepth 20000 in
theorem ggX9_read_X9_readClause : GoodIn wsX9_read wsX9_readClause := goodIn_r _ [45, 2, 3, 1, 46, 47, 48, 14, 49, 20, 16, 17, 19, 50, 51, 52, 53, 54, 55, 56, 57, 58, 59, 60, 61, 62, 63, 64, 65, 66, 67, 68, 69, 70, 71, 72, 73, 74, 75, 76, 77, 78, 79, 80, 81, 82, 83, 84, 85, 86, 87, 88, 89, 90, 91, 92, 93, 94, 95, 96, 97, 98, 99, 100, 101, 102, 103, 11, 12, 13, 15, 18, 21, 22, 23, 24, 25, 26, 27, 28, 29, 30, 31, 32, 33, 34, 35, 36, 37, 38, 39, 40, 104, 105, 106, 107, 108, 109, 110, 111, 112, 44, 113, 114, 115, 116, 117, 118, 119, 7, 120, 10, 121, 122, 123, 124, 125, 126, 127, 128, 129, 130, 131, 132, 133, 134, 135, 136, 137, 138, 139, 140, 141, 142, 143, 144, 145, 146, 147, 148, 149, 150, 151, 152, 153, 154, 155, 156, 157, 158, 9, 159, 160, 166, 167, 168, 169, 170, 171, 172, 173, 174, 175, 176, 177, 178, 179, 180, 181, 182] (by decide +kernel) (by decide +kernel)
set_option maxRecDepth 20000 in
theorem gX9_read_X9_readClause : GoodIn wsX9_read (wsV RX9 29 RX9 yX9_readClause wsX9_readClause) := goodIn_app (goodIn_of _ (by decide +kernel)) ggX9_read_X9_readClause
set_option maxRecDepth 20000 in
theorem ggX9_read_X7_goesOnToClause : GoodIn wsX9_read wsX7_goesOnToClause := goodIn_r _ [164, 103, 20, 165, 124, 125, 14, 126, 40, 108, 100, 101, 102, 17, 109, 12, 13, 15, 16, 18, 19, 21, 22, 23, 24, 25, 26, 27, 28, 29, 30, 31, 32, 33, 34, 35, 36, 37, 38, 39, 169, 170, 171, 172, 173, 174, 175, 176] (by decide +kernel) (by decide +kernel)
set_option maxRecDepth 20000 in
theorem gX9_read_X7_goesOnToClause : GoodIn wsX9_read (wsV RX9 33 RX7 yX7_goesOnToClause wsX7_goesOnToClause) := goodIn_app (goodIn_of _ (by decide +kernel)) ggX9_read_X7_goesOnToClause
theorem dX9_read_0 : decode cX9_read 0 = .ok (.aload_n 0, 1) := by decide +kernel
theorem dX9_read_1 : decode cX9_read 1 = .ok (.getfield 15, 3) := by decide +kernel
theorem dX9_read_4 : decode cX9_read 4 = .ok (.invokevirtual 19, 3) := by decide +kernel
theorem dX9_read_7 : decode cX9_read 7 = .ok (.aload_n 0, 1) := by decide +kernel
theorem dX9_read_8 : decode cX9_read 8 = .ok (.getfield 9, 3) := by decide +kernel
theorem dX9_read_11 : decode cX9_read 11 = .ok (.invokevirtual 24, 3) := by decide +kernel
theorem dX9_read_14 : decode cX9_read 14 = .ok (.iconst 1, 1) := by decide +kernel
theorem dX9_read_15 : decode cX9_read 15 = .ok (.istore_n 1, 1) := by decide +kernel
theorem dX9_read_16 : decode cX9_read 16 = .ok (.iconst 0, 1) := by decide +kernel
theorem dX9_read_17 : decode cX9_read 17 = .ok (.istore_n 2, 1) := by decide +kernel
theorem dX9_read_18 : decode cX9_read 18 = .ok (.iload_n 2, 1) := by decide +kernel
theorem dX9_read_19 : decode cX9_read 19 = .ok (.bipush 12, 2) := by decide +kernel
theorem dX9_read_21 : decode cX9_read 21 = .ok (.if_icmp .gt 36, 3) := by decide +kernel
theorem dX9_read_24 : decode cX9_read 24 = .ok (.iload_n 1, 1) := by decide +kernel
theorem dX9_read_25 : decode cX9_read 25 = .ok (.ifCond .eq 32, 3) := by decide +kernel
theorem dX9_read_28 : decode cX9_read 28 = .ok (.aload_n 0, 1) := by decide +kernel
theorem dX9_read_29 : decode cX9_read 29 = .ok (.iload_n 2, 1) := by decide +kernel
theorem dX9_read_30 : decode cX9_read 30 = .ok (.bipush 12, 2) := by decide +kernel
theorem dX9_read_32 : decode cX9_read 32 = .ok (.if_icmp .ne 7, 3) := by decide +kernel
theorem dX9_read_35 : decode cX9_read 35 = .ok (.iconst 1, 1) := by decide +kernel
theorem dX9_read_36 : decode cX9_read 36 = .ok (.goto 4, 3) := by decide +kernel
theorem dX9_read_39 : decode cX9_read 39 = .ok (.iconst 0, 1) := by decide +kernel
theorem dX9_read_40 : decode cX9_read 40 = .ok (.invokevirtual 29, 3) := by decide +kernel
theorem dX9_read_43 : decode cX9_read 43 = .ok (.aload_n 0, 1) := by decide +kernel
theorem dX9_read_44 : decode cX9_read 44 = .ok (.getfield 9, 3) := by decide +kernel
theorem dX9_read_47 : decode cX9_read 47 = .ok (.invokevirtual 33, 3) := by decide +kernel
theorem dX9_read_50 : decode cX9_read 50 = .ok (.istore_n 1, 1) := by decide +kernel
theorem dX9_read_51 : decode cX9_read 51 = .ok (.iinc 2 1, 3) := by decide +kernel
theorem dX9_read_54 : decode cX9_read 54 = .ok (.goto (-36), 3) := by decide +kernel
theorem dX9_read_57 : decode cX9_read 57 = .ok (.aload_n 0, 1) := by decide +kernel
theorem dX9_read_58 : decode cX9_read 58 = .ok (.getfield 9, 3) := by decide +kernel
theorem dX9_read_61 : decode cX9_read 61 = .ok (.getfield 37, 3) := by decide +kernel
theorem dX9_read_64 : decode cX9_read 64 = .ok (.ireturn, 1) := by decide +kernel
set_option maxRecDepth 20000 in
theorem ggX9_readClause_X7_nameAmong : GoodIn wsX9_readClause wsX7_nameAmong := goodIn_r _ [8, 9, 10, 11, 12, 13, 14, 15, 16, 17, 18, 19, 20, 21, 22, 23, 24, 25, 26, 27, 28, 29, 30, 31, 32, 33, 34, 35, 36, 37, 38, 39, 40, 41, 42, 43, 44, 45, 46, 47, 48, 49, 50, 51, 52, 53, 54, 55, 56, 57, 58, 59, 60, 61, 156, 157, 158, 159, 160, 161, 162, 163] (by decide +kernel) (by decide +kernel)
set_option maxRecDepth 20000 in
theorem gX9_readClause_X7_nameAmong : GoodIn wsX9_readClause (wsV RX9 43 RX7 yX7_nameAmong wsX7_nameAmong) := goodIn_app (goodIn_of _ (by decide +kernel)) ggX9_readClause_X7_nameAmong
set_option maxRecDepth 20000 in
theorem ggX9_readClause_X7_fail : GoodIn wsX9_readClause wsX7_fail := goodIn_r _ [65, 66, 11, 156, 157, 158, 159, 160, 161, 162, 163] (by decide +kernel) (by decide +kernel)
set_option maxRecDepth 20000 in
theorem gX9_readClause_X7_fail : GoodIn wsX9_readClause (wsV RX9 47 RX7 yX7_fail wsX7_fail) := goodIn_app (goodIn_of _ (by decide +kernel)) ggX9_readClause_X7_fail
set_option maxRecDepth 20000 in
theorem ggX9_readClause_X7_advance : GoodIn wsX9_readClause wsX7_advance := goodIn_r _ [70, 10, 11, 71, 12, 9, 72, 73, 7, 74, 75, 76, 77, 78, 79, 80, 81, 82, 83, 84, 85, 86, 87, 88, 89, 90, 91, 156, 157, 158, 159, 160, 161, 162, 163] (by decide +kernel) (by decide +kernel)
set_option maxRecDepth 20000 in
theorem gX9_readClause_X7_advance : GoodIn wsX9_readClause (wsV RX9 24 RX7 yX7_advance wsX7_advance) := goodIn_app (goodIn_of _ (by decide +kernel)) ggX9_readClause_X7_advance
set_option maxRecDepth 20000 in
theorem ggX9_readClause_X7_takeNumber : GoodIn wsX9_readClause wsX7_takeNumber := goodIn_r _ [95, 9, 86, 96, 63, 64, 7, 65, 66, 11, 97, 68, 69, 70, 10, 71, 12, 72, 73, 74, 75, 76, 77, 78, 79, 80, 81, 82, 83, 84, 85, 87, 88, 89, 90, 91, 156, 157, 158, 159, 160, 161, 162, 163] (by decide +kernel) (by decide +kernel)
set_option maxRecDepth 20000 in
theorem gX9_readClause_X7_takeNumber : GoodIn wsX9_readClause (wsV RX9 51 RX7 yX7_takeNumber wsX7_takeNumber) := goodIn_app (goodIn_of _ (by decide +kernel)) ggX9_readClause_X7_takeNumber
set_option maxRecDepth 20000 in
theorem ggX9_readClause_X9_readTest : GoodIn wsX9_readClause wsX9_readTest := goodIn_r _ [102, 1, 2, 3, 103, 104, 105, 101, 106, 107, 108, 109, 110, 111, 112, 4, 5, 6, 7, 8, 9, 10, 11, 12, 13, 14, 15, 16, 17, 18, 19, 20, 21, 22, 23, 24, 25, 26, 27, 28, 29, 30, 31, 32, 33, 34, 35, 36, 37, 38, 39, 40, 41, 42, 43, 44, 45, 46, 47, 48, 49, 50, 51, 52, 53, 54, 55, 56, 57, 58, 59, 60, 61, 67, 68, 69, 70, 71, 72, 73, 74, 75, 76, 77, 78, 79, 80, 81, 82, 83, 84, 85, 86, 87, 88, 89, 90, 91, 113, 114, 115, 116, 117, 118, 119, 120, 121, 122, 123, 124, 125, 126, 127, 128, 129, 130, 62, 63, 64, 65, 66, 131, 132, 133, 134, 135, 136, 137, 138, 139, 140, 141, 142, 143, 144, 145, 98, 99, 100, 153, 154, 155, 156, 157, 158, 159, 160, 161, 162, 163, 164, 165, 166, 167, 168, 169] (by decide +kernel) (by decide +kernel)
set_option maxRecDepth 20000 in
theorem gX9_readClause_X9_readTest : GoodIn wsX9_readClause (wsV RX9 57 RX9 yX9_readTest wsX9_readTest) := goodIn_app (goodIn_of _ (by decide +kernel)) ggX9_readClause_X9_readTest
set_option maxRecDepth 20000 in
theorem ggX9_readClause_X8_addClause : GoodIn wsX9_readClause wsX8_addClause := goodIn_r _ [149, 150, 151, 152, 111, 164, 165, 166, 167, 168, 169] (by decide +kernel) (by decide +kernel)
set_option maxRecDepth 20000 in
theorem gX9_readClause_X8_addClause : GoodIn wsX9_readClause (wsV RX9 60 RX8 yX8_addClause wsX8_addClause) := goodIn_app (goodIn_of _ (by decide +kernel)) ggX9_readClause_X8_addClause
theorem dX9_readClause_0 : decode cX9_readClause 0 = .ok (.aload_n 0, 1) := by decide +kernel
theorem dX9_readClause_1 : decode cX9_readClause 1 = .ok (.getfield 9, 3) := by decide +kernel
theorem dX9_readClause_4 : decode cX9_readClause 4 = .ok (.ldc 41, 2) := by decide +kernel
theorem dX9_readClause_6 : decode cX9_readClause 6 = .ok (.invokevirtual 43, 3) := by decide +kernel
theorem dX9_readClause_9 : decode cX9_readClause 9 = .ok (.istore_n 2, 1) := by decide +kernel
theorem dX9_readClause_10 : decode cX9_readClause 10 = .ok (.iload_n 2, 1) := by decide +kernel
theorem dX9_readClause_11 : decode cX9_readClause 11 = .ok (.iconst (-1), 1) := by decide +kernel
theorem dX9_readClause_12 : decode cX9_readClause 12 = .ok (.if_icmp .ne 14, 3) := by decide +kernel
theorem dX9_readClause_15 : decode cX9_readClause 15 = .ok (.aload_n 0, 1) := by decide +kernel
theorem dX9_readClause_16 : decode cX9_readClause 16 = .ok (.getfield 9, 3) := by decide +kernel
theorem dX9_readClause_19 : decode cX9_readClause 19 = .ok (.iconst 0, 1) := by decide +kernel
theorem dX9_readClause_20 : decode cX9_readClause 20 = .ok (.invokevirtual 47, 3) := by decide +kernel
theorem dX9_readClause_23 : decode cX9_readClause 23 = .ok (.goto 92, 3) := by decide +kernel
theorem dX9_readClause_26 : decode cX9_readClause 26 = .ok (.iload_n 1, 1) := by decide +kernel
theorem dX9_readClause_27 : decode cX9_readClause 27 = .ok (.ifCond .eq 14, 3) := by decide +kernel
theorem dX9_readClause_30 : decode cX9_readClause 30 = .ok (.aload_n 0, 1) := by decide +kernel
theorem dX9_readClause_31 : decode cX9_readClause 31 = .ok (.getfield 9, 3) := by decide +kernel
theorem dX9_readClause_34 : decode cX9_readClause 34 = .ok (.iconst 4, 1) := by decide +kernel
theorem dX9_readClause_35 : decode cX9_readClause 35 = .ok (.invokevirtual 47, 3) := by decide +kernel
theorem dX9_readClause_38 : decode cX9_readClause 38 = .ok (.goto 77, 3) := by decide +kernel
theorem dX9_readClause_41 : decode cX9_readClause 41 = .ok (.aload_n 0, 1) := by decide +kernel
theorem dX9_readClause_42 : decode cX9_readClause 42 = .ok (.getfield 9, 3) := by decide +kernel
theorem dX9_readClause_45 : decode cX9_readClause 45 = .ok (.invokevirtual 24, 3) := by decide +kernel
theorem dX9_readClause_48 : decode cX9_readClause 48 = .ok (.iload_n 2, 1) := by decide +kernel
theorem dX9_readClause_49 : decode cX9_readClause 49 = .ok (.iconst 1, 1) := by decide +kernel
theorem dX9_readClause_50 : decode cX9_readClause 50 = .ok (.if_icmp .ne 7, 3) := by decide +kernel
theorem dX9_readClause_53 : decode cX9_readClause 53 = .ok (.iconst 4, 1) := by decide +kernel
theorem dX9_readClause_54 : decode cX9_readClause 54 = .ok (.goto 4, 3) := by decide +kernel
theorem dX9_readClause_57 : decode cX9_readClause 57 = .ok (.iconst (-1), 1) := by decide +kernel
theorem dX9_readClause_58 : decode cX9_readClause 58 = .ok (.istore_n 3, 1) := by decide +kernel
theorem dX9_readClause_59 : decode cX9_readClause 59 = .ok (.iload_n 2, 1) := by decide +kernel
theorem dX9_readClause_60 : decode cX9_readClause 60 = .ok (.ifCond .ne 13, 3) := by decide +kernel
theorem dX9_readClause_63 : decode cX9_readClause 63 = .ok (.aload_n 0, 1) := by decide +kernel
theorem dX9_readClause_64 : decode cX9_readClause 64 = .ok (.getfield 9, 3) := by decide +kernel
theorem dX9_readClause_67 : decode cX9_readClause 67 = .ok (.iconst 0, 1) := by decide +kernel
theorem dX9_readClause_68 : decode cX9_readClause 68 = .ok (.iconst 3, 1) := by decide +kernel
theorem dX9_readClause_69 : decode cX9_readClause 69 = .ok (.invokevirtual 51, 3) := by decide +kernel
theorem dX9_readClause_72 : decode cX9_readClause 72 = .ok (.istore_n 3, 1) := by decide +kernel
theorem dX9_readClause_73 : decode cX9_readClause 73 = .ok (.aload_n 0, 1) := by decide +kernel
theorem dX9_readClause_74 : decode cX9_readClause 74 = .ok (.getfield 9, 3) := by decide +kernel
theorem dX9_readClause_77 : decode cX9_readClause 77 = .ok (.getfield 37, 3) := by decide +kernel
theorem dX9_readClause_80 : decode cX9_readClause 80 = .ok (.ifCond .ne 27, 3) := by decide +kernel
theorem dX9_readClause_83 : decode cX9_readClause 83 = .ok (.aload_n 0, 1) := by decide +kernel
theorem dX9_readClause_84 : decode cX9_readClause 84 = .ok (.getfield 9, 3) := by decide +kernel
theorem dX9_readClause_87 : decode cX9_readClause 87 = .ok (.ldc 55, 2) := by decide +kernel
theorem dX9_readClause_89 : decode cX9_readClause 89 = .ok (.invokevirtual 43, 3) := by decide +kernel
theorem dX9_readClause_92 : decode cX9_readClause 92 = .ok (.ifCond .ne 15, 3) := by decide +kernel
theorem dX9_readClause_95 : decode cX9_readClause 95 = .ok (.aload_n 0, 1) := by decide +kernel
theorem dX9_readClause_96 : decode cX9_readClause 96 = .ok (.getfield 9, 3) := by decide +kernel
theorem dX9_readClause_99 : decode cX9_readClause 99 = .ok (.invokevirtual 24, 3) := by decide +kernel
theorem dX9_readClause_102 : decode cX9_readClause 102 = .ok (.aload_n 0, 1) := by decide +kernel
theorem dX9_readClause_103 : decode cX9_readClause 103 = .ok (.iconst 0, 1) := by decide +kernel
theorem dX9_readClause_104 : decode cX9_readClause 104 = .ok (.invokevirtual 57, 3) := by decide +kernel
theorem dX9_readClause_107 : decode cX9_readClause 107 = .ok (.aload_n 0, 1) := by decide +kernel
theorem dX9_readClause_108 : decode cX9_readClause 108 = .ok (.getfield 15, 3) := by decide +kernel
theorem dX9_readClause_111 : decode cX9_readClause 111 = .ok (.iload_n 3, 1) := by decide +kernel
theorem dX9_readClause_112 : decode cX9_readClause 112 = .ok (.invokevirtual 60, 3) := by decide +kernel
theorem dX9_readClause_115 : decode cX9_readClause 115 = .ok (.return_, 1) := by decide +kernel
set_option maxRecDepth 20000 in
theorem ggX9_readTest_X9_readFact : GoodIn wsX9_readTest wsX9_readFact := goodIn_r _ [98, 1, 3, 15, 16, 17, 18, 19, 20, 21, 22, 23, 24, 25, 26, 27, 28, 29, 30, 31, 32, 33, 34, 35, 36, 37, 38, 39, 40, 41, 42, 43, 44, 45, 46, 47, 48, 49, 50, 51, 52, 53, 54, 55, 56, 57, 58, 59, 60, 61, 62, 63, 64, 65, 66, 67, 68, 69, 70, 71, 72, 99, 100, 101, 102, 97, 103, 104, 105, 7, 106, 107, 108, 109, 2, 110, 111, 112, 113, 114, 115, 116, 117, 118, 119, 120, 121, 122, 123, 124, 125, 8, 9, 10, 11, 12, 13, 14, 73, 74, 75, 76, 77, 78, 79, 80, 81, 82, 83, 84, 85, 86, 87, 88, 89, 90, 91, 92, 93, 94, 95, 96, 126, 127, 128, 129, 130, 131, 132, 133, 134, 135, 4, 5, 6, 136, 137, 138, 0, 139, 140, 141, 142, 143, 144, 145, 146, 147, 148, 149, 150, 151, 152, 153, 154, 155] (by decide +kernel) (by decide +kernel)
set_option maxRecDepth 20000 in
theorem gX9_readTest_X9_readFact : GoodIn wsX9_readTest (wsV RX9 63 RX9 yX9_readFact wsX9_readFact) := goodIn_app (goodIn_of _ (by decide +kernel)) ggX9_readTest_X9_readFact
set_option maxRecDepth 20000 in
theorem ggX9_readTest_X8_put : GoodIn wsX9_readTest wsX8_put := goodIn_r _ [12, 13, 14, 150, 151, 152, 153, 154, 155] (by decide +kernel) (by decide +kernel)
set_option maxRecDepth 20000 in
theorem gX9_readTest_X8_put : GoodIn wsX9_readTest (wsV RX9 66 RX8 yX8_put wsX8_put) := goodIn_app (goodIn_of _ (by decide +kernel)) ggX9_readTest_X8_put
set_option maxRecDepth 20000 in
theorem ggX9_readTest_X7_nameAmong : GoodIn wsX9_readTest wsX7_nameAmong := goodIn_r _ [19, 20, 21, 22, 23, 24, 25, 26, 27, 28, 29, 30, 31, 32, 33, 34, 35, 36, 37, 38, 39, 40, 41, 42, 43, 44, 45, 46, 47, 48, 49, 50, 51, 52, 53, 54, 55, 56, 57, 58, 59, 60, 61, 62, 63, 64, 65, 66, 67, 68, 69, 70, 71, 72, 142, 143, 144, 145, 146, 147, 148, 149] (by decide +kernel) (by decide +kernel)
set_option maxRecDepth 20000 in
theorem gX9_readTest_X7_nameAmong : GoodIn wsX9_readTest (wsV RX9 43 RX7 yX7_nameAmong wsX7_nameAmong) := goodIn_app (goodIn_of _ (by decide +kernel)) ggX9_readTest_X7_nameAmong
set_option maxRecDepth 20000 in
theorem ggX9_readTest_X7_advance : GoodIn wsX9_readTest wsX7_advance := goodIn_r _ [76, 21, 22, 77, 23, 20, 78, 79, 18, 80, 81, 82, 83, 84, 85, 86, 87, 88, 89, 90, 91, 92, 93, 94, 95, 96, 97, 142, 143, 144, 145, 146, 147, 148, 149] (by decide +kernel) (by decide +kernel)
set_option maxRecDepth 20000 in
theorem gX9_readTest_X7_advance : GoodIn wsX9_readTest (wsV RX9 24 RX7 yX7_advance wsX7_advance) := goodIn_app (goodIn_of _ (by decide +kernel)) ggX9_readTest_X7_advance
theorem dX9_readTest_0 : decode cX9_readTest 0 = .ok (.iconst 0, 1) := by decide +kernel
theorem dX9_readTest_1 : decode cX9_readTest 1 = .ok (.istore_n 2, 1) := by decide +kernel
theorem dX9_readTest_2 : decode cX9_readTest 2 = .ok (.iconst 0, 1) := by decide +kernel
theorem dX9_readTest_3 : decode cX9_readTest 3 = .ok (.istore_n 3, 1) := by decide +kernel
theorem dX9_readTest_4 : decode cX9_readTest 4 = .ok (.iconst 0, 1) := by decide +kernel
theorem dX9_readTest_5 : decode cX9_readTest 5 = .ok (.istore 4, 2) := by decide +kernel
theorem dX9_readTest_7 : decode cX9_readTest 7 = .ok (.iload 4, 2) := by decide +kernel
theorem dX9_readTest_9 : decode cX9_readTest 9 = .ok (.sipush 400, 3) := by decide +kernel
theorem dX9_readTest_12 : decode cX9_readTest 12 = .ok (.if_icmp .ge 104, 3) := by decide +kernel
theorem dX9_readTest_15 : decode cX9_readTest 15 = .ok (.aload_n 0, 1) := by decide +kernel
theorem dX9_readTest_16 : decode cX9_readTest 16 = .ok (.getfield 9, 3) := by decide +kernel
theorem dX9_readTest_19 : decode cX9_readTest 19 = .ok (.getfield 37, 3) := by decide +kernel
theorem dX9_readTest_22 : decode cX9_readTest 22 = .ok (.ifCond .ne 94, 3) := by decide +kernel
theorem dX9_readTest_25 : decode cX9_readTest 25 = .ok (.aload_n 0, 1) := by decide +kernel
theorem dX9_readTest_26 : decode cX9_readTest 26 = .ok (.iload_n 1, 1) := by decide +kernel
theorem dX9_readTest_27 : decode cX9_readTest 27 = .ok (.invokevirtual 63, 3) := by decide +kernel
theorem dX9_readTest_30 : decode cX9_readTest 30 = .ok (.iload_n 2, 1) := by decide +kernel
theorem dX9_readTest_31 : decode cX9_readTest 31 = .ok (.ifCond .eq 12, 3) := by decide +kernel
theorem dX9_readTest_34 : decode cX9_readTest 34 = .ok (.aload_n 0, 1) := by decide +kernel
theorem dX9_readTest_35 : decode cX9_readTest 35 = .ok (.getfield 15, 3) := by decide +kernel
theorem dX9_readTest_38 : decode cX9_readTest 38 = .ok (.bipush (-20), 2) := by decide +kernel
theorem dX9_readTest_40 : decode cX9_readTest 40 = .ok (.invokevirtual 66, 3) := by decide +kernel
theorem dX9_readTest_43 : decode cX9_readTest 43 = .ok (.aload_n 0, 1) := by decide +kernel
theorem dX9_readTest_44 : decode cX9_readTest 44 = .ok (.getfield 9, 3) := by decide +kernel
theorem dX9_readTest_47 : decode cX9_readTest 47 = .ok (.ldc 69, 2) := by decide +kernel
theorem dX9_readTest_49 : decode cX9_readTest 49 = .ok (.invokevirtual 43, 3) := by decide +kernel
theorem dX9_readTest_52 : decode cX9_readTest 52 = .ok (.istore 5, 2) := by decide +kernel
theorem dX9_readTest_54 : decode cX9_readTest 54 = .ok (.iload 5, 2) := by decide +kernel
theorem dX9_readTest_56 : decode cX9_readTest 56 = .ok (.ifCond .ne 7, 3) := by decide +kernel
theorem dX9_readTest_59 : decode cX9_readTest 59 = .ok (.iconst 1, 1) := by decide +kernel
theorem dX9_readTest_60 : decode cX9_readTest 60 = .ok (.goto 4, 3) := by decide +kernel
theorem dX9_readTest_63 : decode cX9_readTest 63 = .ok (.iconst 0, 1) := by decide +kernel
theorem dX9_readTest_64 : decode cX9_readTest 64 = .ok (.istore_n 2, 1) := by decide +kernel
theorem dX9_readTest_65 : decode cX9_readTest 65 = .ok (.iload_n 2, 1) := by decide +kernel
theorem dX9_readTest_66 : decode cX9_readTest 66 = .ok (.ifCond .ne 28, 3) := by decide +kernel
theorem dX9_readTest_69 : decode cX9_readTest 69 = .ok (.iload_n 3, 1) := by decide +kernel
theorem dX9_readTest_70 : decode cX9_readTest 70 = .ok (.ifCond .eq 12, 3) := by decide +kernel
theorem dX9_readTest_73 : decode cX9_readTest 73 = .ok (.aload_n 0, 1) := by decide +kernel
theorem dX9_readTest_74 : decode cX9_readTest 74 = .ok (.getfield 15, 3) := by decide +kernel
theorem dX9_readTest_77 : decode cX9_readTest 77 = .ok (.bipush (-21), 2) := by decide +kernel
theorem dX9_readTest_79 : decode cX9_readTest 79 = .ok (.invokevirtual 66, 3) := by decide +kernel
theorem dX9_readTest_82 : decode cX9_readTest 82 = .ok (.iload 5, 2) := by decide +kernel
theorem dX9_readTest_84 : decode cX9_readTest 84 = .ok (.iconst 1, 1) := by decide +kernel
theorem dX9_readTest_85 : decode cX9_readTest 85 = .ok (.if_icmp .ne 7, 3) := by decide +kernel
theorem dX9_readTest_88 : decode cX9_readTest 88 = .ok (.iconst 1, 1) := by decide +kernel
theorem dX9_readTest_89 : decode cX9_readTest 89 = .ok (.goto 4, 3) := by decide +kernel
theorem dX9_readTest_92 : decode cX9_readTest 92 = .ok (.iconst 0, 1) := by decide +kernel
theorem dX9_readTest_93 : decode cX9_readTest 93 = .ok (.istore_n 3, 1) := by decide +kernel
theorem dX9_readTest_94 : decode cX9_readTest 94 = .ok (.iload_n 2, 1) := by decide +kernel
theorem dX9_readTest_95 : decode cX9_readTest 95 = .ok (.ifCond .ne 8, 3) := by decide +kernel
theorem dX9_readTest_98 : decode cX9_readTest 98 = .ok (.iload_n 3, 1) := by decide +kernel
theorem dX9_readTest_99 : decode cX9_readTest 99 = .ok (.ifCond .ne 4, 3) := by decide +kernel
theorem dX9_readTest_102 : decode cX9_readTest 102 = .ok (.return_, 1) := by decide +kernel
theorem dX9_readTest_103 : decode cX9_readTest 103 = .ok (.aload_n 0, 1) := by decide +kernel
theorem dX9_readTest_104 : decode cX9_readTest 104 = .ok (.getfield 9, 3) := by decide +kernel
theorem dX9_readTest_107 : decode cX9_readTest 107 = .ok (.invokevirtual 24, 3) := by decide +kernel
theorem dX9_readTest_110 : decode cX9_readTest 110 = .ok (.iinc 4 1, 3) := by decide +kernel
theorem dX9_readTest_113 : decode cX9_readTest 113 = .ok (.goto (-106), 3) := by decide +kernel
theorem dX9_readTest_116 : decode cX9_readTest 116 = .ok (.return_, 1) := by decide +kernel
set_option maxRecDepth 20000 in
theorem ggX9_readFact_X7_nameAmong : GoodIn wsX9_readFact wsX7_nameAmong := goodIn_r _ [7, 8, 9, 10, 11, 12, 13, 14, 15, 16, 17, 18, 19, 20, 21, 22, 23, 24, 25, 26, 27, 28, 29, 30, 31, 32, 33, 34, 35, 36, 37, 38, 39, 40, 41, 42, 43, 44, 45, 46, 47, 48, 49, 50, 51, 52, 53, 54, 55, 56, 57, 58, 59, 60, 142, 143, 144, 145, 146, 147, 148, 149] (by decide +kernel) (by decide +kernel)
set_option maxRecDepth 20000 in
theorem gX9_readFact_X7_nameAmong : GoodIn wsX9_readFact (wsV RX9 43 RX7 yX7_nameAmong wsX7_nameAmong) := goodIn_app (goodIn_of _ (by decide +kernel)) ggX9_readFact_X7_nameAmong
set_option maxRecDepth 20000 in
theorem ggX9_readFact_X7_isSign : GoodIn wsX9_readFact wsX7_isSign := goodIn_r _ [64, 8, 65, 142, 143, 144, 145, 146, 147, 148, 149] (by decide +kernel) (by decide +kernel)
set_option maxRecDepth 20000 in
theorem gX9_readFact_X7_isSign : GoodIn wsX9_readFact (wsV RX9 73 RX7 yX7_isSign wsX7_isSign) := goodIn_app (goodIn_of _ (by decide +kernel)) ggX9_readFact_X7_isSign
set_option maxRecDepth 20000 in
theorem ggX9_readFact_X9_readNested : GoodIn wsX9_readFact wsX9_readNested := goodIn_r _ [131, 1, 2, 81, 82, 83, 6, 84, 85, 10, 98, 99, 100, 101, 9, 102, 11, 8, 103, 104, 105, 106, 107, 108, 109, 110, 111, 112, 113, 114, 115, 116, 117, 118, 119, 120, 121, 65, 132, 133, 134, 69, 91, 92, 93, 94, 95, 96, 97, 135, 136, 137, 61, 62, 63, 64, 0, 3, 4, 5, 7, 12, 13, 14, 15, 16, 17, 18, 19, 20, 21, 22, 23, 24, 25, 26, 27, 28, 29, 30, 31, 32, 33, 34, 35, 36, 37, 38, 39, 40, 41, 42, 43, 44, 45, 46, 47, 48, 49, 50, 51, 52, 53, 54, 55, 56, 57, 58, 59, 60, 66, 67, 68, 70, 71, 72, 73, 74, 75, 76, 77, 78, 79, 80, 86, 87, 88, 89, 90, 122, 123, 124, 125, 126, 127, 128, 129, 130, 138, 139, 140, 141, 142, 143, 144, 145, 146, 147, 148, 149, 150, 151, 152, 153, 154, 155] (by decide +kernel) (by decide +kernel)
set_option maxRecDepth 20000 in
theorem gX9_readFact_X9_readNested : GoodIn wsX9_readFact (wsV RX9 77 RX9 yX9_readNested wsX9_readNested) := goodIn_app (goodIn_of _ (by decide +kernel)) ggX9_readFact_X9_readNested
set_option maxRecDepth 20000 in
theorem ggX9_readFact_X9_readSum : GoodIn wsX9_readFact wsX9_readSum := goodIn_r _ [73, 1, 74, 2, 75, 76, 77, 69, 78, 79, 80, 3, 4, 5, 6, 7, 8, 9, 10, 11, 12, 13, 14, 15, 16, 17, 18, 19, 20, 21, 22, 23, 24, 25, 26, 27, 28, 29, 30, 31, 32, 33, 34, 35, 36, 37, 38, 39, 40, 41, 42, 43, 44, 45, 46, 47, 48, 49, 50, 51, 52, 53, 54, 55, 56, 57, 58, 59, 60, 81, 82, 83, 84, 85, 86, 87, 88, 89, 90, 91, 92, 93, 94, 95, 96, 97, 98, 99, 100, 101, 102, 103, 104, 105, 106, 107, 108, 109, 110, 111, 112, 113, 114, 115, 116, 117, 118, 119, 120, 121, 65, 122, 123, 124, 125, 61, 62, 63, 64, 139, 140, 141, 142, 143, 144, 145, 146, 147, 148, 149, 150, 151, 152, 153, 154, 155] (by decide +kernel) (by decide +kernel)
set_option maxRecDepth 20000 in
theorem gX9_readFact_X9_readSum : GoodIn wsX9_readFact (wsV RX9 81 RX9 yX9_readSum wsX9_readSum) := goodIn_app (goodIn_of _ (by decide +kernel)) ggX9_readFact_X9_readSum
set_option maxRecDepth 20000 in
theorem ggX9_readFact_X9_comparisonAhead : GoodIn wsX9_readFact wsX9_comparisonAhead := goodIn_r _ [129, 1, 79, 130, 139, 140, 141, 142, 143, 144, 145, 146, 147, 148, 149] (by decide +kernel) (by decide +kernel)
set_option maxRecDepth 20000 in
theorem gX9_readFact_X9_comparisonAhead : GoodIn wsX9_readFact (wsV RX9 84 RX9 yX9_comparisonAhead wsX9_comparisonAhead) := goodIn_app (goodIn_of _ (by decide +kernel)) ggX9_readFact_X9_comparisonAhead
set_option maxRecDepth 20000 in
theorem ggX9_readFact_X7_fail : GoodIn wsX9_readFact wsX7_fail := goodIn_r _ [84, 85, 10, 142, 143, 144, 145, 146, 147, 148, 149] (by decide +kernel) (by decide +kernel)
set_option maxRecDepth 20000 in
theorem gX9_readFact_X7_fail : GoodIn wsX9_readFact (wsV RX9 47 RX7 yX7_fail wsX7_fail) := goodIn_app (goodIn_of _ (by decide +kernel)) ggX9_readFact_X7_fail
set_option maxRecDepth 20000 in
theorem ggX9_readFact_X9_isRoomForNode : GoodIn wsX9_readFact wsX9_isRoomForNode := goodIn_r _ [89, 90, 1, 81, 82, 83, 6, 84, 85, 10, 139, 140, 141, 142, 143, 144, 145, 146, 147, 148, 149] (by decide +kernel) (by decide +kernel)
set_option maxRecDepth 20000 in
theorem gX9_readFact_X9_isRoomForNode : GoodIn wsX9_readFact (wsV RX9 88 RX9 yX9_isRoomForNode wsX9_isRoomForNode) := goodIn_app (goodIn_of _ (by decide +kernel)) ggX9_readFact_X9_isRoomForNode
set_option maxRecDepth 20000 in
theorem ggX9_readFact_X7_advance : GoodIn wsX9_readFact wsX7_advance := goodIn_r _ [101, 9, 10, 102, 11, 8, 103, 104, 6, 105, 106, 107, 108, 109, 110, 111, 112, 113, 114, 115, 116, 117, 118, 119, 120, 121, 65, 142, 143, 144, 145, 146, 147, 148, 149] (by decide +kernel) (by decide +kernel)
set_option maxRecDepth 20000 in
theorem gX9_readFact_X7_advance : GoodIn wsX9_readFact (wsV RX9 24 RX7 yX7_advance wsX7_advance) := goodIn_app (goodIn_of _ (by decide +kernel)) ggX9_readFact_X7_advance
set_option maxRecDepth 20000 in
theorem ggX9_readFact_X8_put : GoodIn wsX9_readFact wsX8_put := goodIn_r _ [95, 96, 97, 150, 151, 152, 153, 154, 155] (by decide +kernel) (by decide +kernel)
set_option maxRecDepth 20000 in
theorem gX9_readFact_X8_put : GoodIn wsX9_readFact (wsV RX9 66 RX8 yX8_put wsX8_put) := goodIn_app (goodIn_of _ (by decide +kernel)) ggX9_readFact_X8_put
