theorem dX5_finds_9 : decode cX5_finds 9 = .ok (.iload_n 2, 1) := by decide +kernel
theorem dX5_finds_10 : decode cX5_finds 10 = .ok (.invokevirtual 24, 3) := by decide +kernel
theorem dX5_finds_13 : decode cX5_finds 13 = .ok (.aload_n 0, 1) := by decide +kernel
theorem dX5_finds_14 : decode cX5_finds 14 = .ok (.iload_n 2, 1) := by decide +kernel
theorem dX5_finds_15 : decode cX5_finds 15 = .ok (.invokevirtual 28, 3) := by decide +kernel
theorem dX5_finds_18 : decode cX5_finds 18 = .ok (.iinc 2 (-1), 3) := by decide +kernel
theorem dX5_finds_21 : decode cX5_finds 21 = .ok (.goto (-18), 3) := by decide +kernel
theorem dX5_finds_24 : decode cX5_finds 24 = .ok (.aload_n 0, 1) := by decide +kernel
theorem dX5_finds_25 : decode cX5_finds 25 = .ok (.iconst 0, 1) := by decide +kernel
theorem dX5_finds_26 : decode cX5_finds 26 = .ok (.putfield 32, 3) := by decide +kernel
theorem dX5_finds_29 : decode cX5_finds 29 = .ok (.aload_n 0, 1) := by decide +kernel
theorem dX5_finds_30 : decode cX5_finds 30 = .ok (.iconst 0, 1) := by decide +kernel
theorem dX5_finds_31 : decode cX5_finds 31 = .ok (.putfield 36, 3) := by decide +kernel
theorem dX5_finds_34 : decode cX5_finds 34 = .ok (.iconst 0, 1) := by decide +kernel
theorem dX5_finds_35 : decode cX5_finds 35 = .ok (.istore_n 2, 1) := by decide +kernel
theorem dX5_finds_36 : decode cX5_finds 36 = .ok (.iconst 0, 1) := by decide +kernel
theorem dX5_finds_37 : decode cX5_finds 37 = .ok (.istore_n 3, 1) := by decide +kernel
theorem dX5_finds_38 : decode cX5_finds 38 = .ok (.iload_n 3, 1) := by decide +kernel
theorem dX5_finds_39 : decode cX5_finds 39 = .ok (.bipush 10, 2) := by decide +kernel
theorem dX5_finds_41 : decode cX5_finds 41 = .ok (.if_icmp .ge 70, 3) := by decide +kernel
theorem dX5_finds_44 : decode cX5_finds 44 = .ok (.aload_n 0, 1) := by decide +kernel
theorem dX5_finds_45 : decode cX5_finds 45 = .ok (.iload_n 3, 1) := by decide +kernel
theorem dX5_finds_46 : decode cX5_finds 46 = .ok (.iload_n 2, 1) := by decide +kernel
theorem dX5_finds_47 : decode cX5_finds 47 = .ok (.invokevirtual 39, 3) := by decide +kernel
theorem dX5_finds_50 : decode cX5_finds 50 = .ok (.istore 4, 2) := by decide +kernel
theorem dX5_finds_52 : decode cX5_finds 52 = .ok (.aload_n 0, 1) := by decide +kernel
theorem dX5_finds_53 : decode cX5_finds 53 = .ok (.getfield 9, 3) := by decide +kernel
theorem dX5_finds_56 : decode cX5_finds 56 = .ok (.iload_n 3, 1) := by decide +kernel
theorem dX5_finds_57 : decode cX5_finds 57 = .ok (.iload 4, 2) := by decide +kernel
theorem dX5_finds_59 : decode cX5_finds 59 = .ok (.iastore, 1) := by decide +kernel
theorem dX5_finds_60 : decode cX5_finds 60 = .ok (.iload 4, 2) := by decide +kernel
theorem dX5_finds_62 : decode cX5_finds 62 = .ok (.bipush (-5), 2) := by decide +kernel
theorem dX5_finds_64 : decode cX5_finds 64 = .ok (.if_icmp .eq 41, 3) := by decide +kernel
theorem dX5_finds_67 : decode cX5_finds 67 = .ok (.iload_n 2, 1) := by decide +kernel
theorem dX5_finds_68 : decode cX5_finds 68 = .ok (.iconst 1, 1) := by decide +kernel
theorem dX5_finds_69 : decode cX5_finds 69 = .ok (.iload 4, 2) := by decide +kernel
theorem dX5_finds_71 : decode cX5_finds 71 = .ok (.ishl, 1) := by decide +kernel
theorem dX5_finds_72 : decode cX5_finds 72 = .ok (.ior, 1) := by decide +kernel
theorem dX5_finds_73 : decode cX5_finds 73 = .ok (.istore_n 2, 1) := by decide +kernel
theorem dX5_finds_74 : decode cX5_finds 74 = .ok (.aload_n 0, 1) := by decide +kernel
theorem dX5_finds_75 : decode cX5_finds 75 = .ok (.dup, 1) := by decide +kernel
theorem dX5_finds_76 : decode cX5_finds 76 = .ok (.getfield 32, 3) := by decide +kernel
theorem dX5_finds_79 : decode cX5_finds 79 = .ok (.iconst 1, 1) := by decide +kernel
theorem dX5_finds_80 : decode cX5_finds 80 = .ok (.iadd, 1) := by decide +kernel
theorem dX5_finds_81 : decode cX5_finds 81 = .ok (.putfield 32, 3) := by decide +kernel
theorem dX5_finds_84 : decode cX5_finds 84 = .ok (.aload_n 0, 1) := by decide +kernel
theorem dX5_finds_85 : decode cX5_finds 85 = .ok (.dup, 1) := by decide +kernel
theorem dX5_finds_86 : decode cX5_finds 86 = .ok (.getfield 36, 3) := by decide +kernel
theorem dX5_finds_89 : decode cX5_finds 89 = .ok (.aload_n 0, 1) := by decide +kernel
theorem dX5_finds_90 : decode cX5_finds 90 = .ok (.getfield 18, 3) := by decide +kernel
theorem dX5_finds_93 : decode cX5_finds 93 = .ok (.iload_n 3, 1) := by decide +kernel
theorem dX5_finds_94 : decode cX5_finds 94 = .ok (.bipush 6, 2) := by decide +kernel
theorem dX5_finds_96 : decode cX5_finds 96 = .ok (.imul, 1) := by decide +kernel
theorem dX5_finds_97 : decode cX5_finds 97 = .ok (.iload 4, 2) := by decide +kernel
theorem dX5_finds_99 : decode cX5_finds 99 = .ok (.iadd, 1) := by decide +kernel
theorem dX5_finds_100 : decode cX5_finds 100 = .ok (.iaload, 1) := by decide +kernel
theorem dX5_finds_101 : decode cX5_finds 101 = .ok (.iadd, 1) := by decide +kernel
theorem dX5_finds_102 : decode cX5_finds 102 = .ok (.putfield 36, 3) := by decide +kernel
theorem dX5_finds_105 : decode cX5_finds 105 = .ok (.iinc 3 1, 3) := by decide +kernel
theorem dX5_finds_108 : decode cX5_finds 108 = .ok (.goto (-70), 3) := by decide +kernel
theorem dX5_finds_111 : decode cX5_finds 111 = .ok (.return_, 1) := by decide +kernel
set_option maxRecDepth 20000 in
theorem ggX5_asks_X1_waitsFor : GoodIn wsX5_asks wsX1_waitsFor := goodIn_r _ [8, 9, 10, 11, 7, 12, 13, 14, 15, 16, 17, 18, 19, 59, 60, 61, 62, 63, 64, 65, 66, 67, 68, 69, 70, 71, 72, 73, 74, 75] (by decide +kernel) (by decide +kernel)
set_option maxRecDepth 20000 in
theorem gX5_asks_X1_waitsFor : GoodIn wsX5_asks (wsV RX5 43 RX1 yX1_waitsFor wsX1_waitsFor) := goodIn_app (goodIn_of _ (by decide +kernel)) ggX5_asks_X1_waitsFor
set_option maxRecDepth 20000 in
theorem ggX5_asks_X1_isFree : GoodIn wsX5_asks wsX1_isFree := goodIn_r _ [23, 24, 19, 25, 59, 60, 61, 62, 63, 64, 65, 66, 67, 68, 69, 70, 71, 72, 73, 74, 75] (by decide +kernel) (by decide +kernel)
set_option maxRecDepth 20000 in
theorem gX5_asks_X1_isFree : GoodIn wsX5_asks (wsV RX5 52 RX1 yX1_isFree wsX1_isFree) := goodIn_app (goodIn_of _ (by decide +kernel)) ggX5_asks_X1_isFree
set_option maxRecDepth 20000 in
theorem ggX5_asks_X1_cost : GoodIn wsX5_asks wsX1_cost := goodIn_r _ [29, 30, 31, 32, 33, 34, 35, 36, 37, 38, 7, 39, 40, 41, 42, 43, 44, 45, 46, 47, 48, 49, 50, 51, 52, 59, 60, 61, 62, 63, 64, 65, 66, 67, 68, 69, 70, 71, 72, 73, 74, 75, 76, 77, 78] (by decide +kernel) (by decide +kernel)
set_option maxRecDepth 20000 in
theorem gX5_asks_X1_cost : GoodIn wsX5_asks (wsV RX5 55 RX1 yX1_cost wsX1_cost) := goodIn_app (goodIn_of _ (by decide +kernel)) ggX5_asks_X1_cost
theorem dX5_asks_0 : decode cX5_asks 0 = .ok (.aload_n 0, 1) := by decide +kernel
theorem dX5_asks_1 : decode cX5_asks 1 = .ok (.getfield 15, 3) := by decide +kernel
theorem dX5_asks_4 : decode cX5_asks 4 = .ok (.iload_n 2, 1) := by decide +kernel
theorem dX5_asks_5 : decode cX5_asks 5 = .ok (.iconst 0, 1) := by decide +kernel
theorem dX5_asks_6 : decode cX5_asks 6 = .ok (.iastore, 1) := by decide +kernel
theorem dX5_asks_7 : decode cX5_asks 7 = .ok (.aload_n 1, 1) := by decide +kernel
theorem dX5_asks_8 : decode cX5_asks 8 = .ok (.iload_n 2, 1) := by decide +kernel
theorem dX5_asks_9 : decode cX5_asks 9 = .ok (.invokevirtual 43, 3) := by decide +kernel
theorem dX5_asks_12 : decode cX5_asks 12 = .ok (.ifCond .ne 4, 3) := by decide +kernel
theorem dX5_asks_15 : decode cX5_asks 15 = .ok (.return_, 1) := by decide +kernel
theorem dX5_asks_16 : decode cX5_asks 16 = .ok (.iconst 0, 1) := by decide +kernel
theorem dX5_asks_17 : decode cX5_asks 17 = .ok (.istore_n 3, 1) := by decide +kernel
theorem dX5_asks_18 : decode cX5_asks 18 = .ok (.iload_n 3, 1) := by decide +kernel
theorem dX5_asks_19 : decode cX5_asks 19 = .ok (.aload_n 1, 1) := by decide +kernel
theorem dX5_asks_20 : decode cX5_asks 20 = .ok (.getfield 49, 3) := by decide +kernel
theorem dX5_asks_23 : decode cX5_asks 23 = .ok (.if_icmp .ge 46, 3) := by decide +kernel
theorem dX5_asks_26 : decode cX5_asks 26 = .ok (.aload_n 1, 1) := by decide +kernel
theorem dX5_asks_27 : decode cX5_asks 27 = .ok (.iload_n 3, 1) := by decide +kernel
theorem dX5_asks_28 : decode cX5_asks 28 = .ok (.invokevirtual 52, 3) := by decide +kernel
theorem dX5_asks_31 : decode cX5_asks 31 = .ok (.ifCond .eq 32, 3) := by decide +kernel
theorem dX5_asks_34 : decode cX5_asks 34 = .ok (.aload_n 0, 1) := by decide +kernel
theorem dX5_asks_35 : decode cX5_asks 35 = .ok (.getfield 15, 3) := by decide +kernel
theorem dX5_asks_38 : decode cX5_asks 38 = .ok (.iload_n 2, 1) := by decide +kernel
theorem dX5_asks_39 : decode cX5_asks 39 = .ok (.dup2, 1) := by decide +kernel
theorem dX5_asks_40 : decode cX5_asks 40 = .ok (.iaload, 1) := by decide +kernel
theorem dX5_asks_41 : decode cX5_asks 41 = .ok (.iconst 1, 1) := by decide +kernel
theorem dX5_asks_42 : decode cX5_asks 42 = .ok (.iload_n 3, 1) := by decide +kernel
theorem dX5_asks_43 : decode cX5_asks 43 = .ok (.ishl, 1) := by decide +kernel
theorem dX5_asks_44 : decode cX5_asks 44 = .ok (.ior, 1) := by decide +kernel
theorem dX5_asks_45 : decode cX5_asks 45 = .ok (.iastore, 1) := by decide +kernel
theorem dX5_asks_46 : decode cX5_asks 46 = .ok (.aload_n 0, 1) := by decide +kernel
theorem dX5_asks_47 : decode cX5_asks 47 = .ok (.getfield 18, 3) := by decide +kernel
theorem dX5_asks_50 : decode cX5_asks 50 = .ok (.iload_n 2, 1) := by decide +kernel
theorem dX5_asks_51 : decode cX5_asks 51 = .ok (.bipush 6, 2) := by decide +kernel
theorem dX5_asks_53 : decode cX5_asks 53 = .ok (.imul, 1) := by decide +kernel
theorem dX5_asks_54 : decode cX5_asks 54 = .ok (.iload_n 3, 1) := by decide +kernel
theorem dX5_asks_55 : decode cX5_asks 55 = .ok (.iadd, 1) := by decide +kernel
theorem dX5_asks_56 : decode cX5_asks 56 = .ok (.aload_n 1, 1) := by decide +kernel
theorem dX5_asks_57 : decode cX5_asks 57 = .ok (.iload_n 3, 1) := by decide +kernel
theorem dX5_asks_58 : decode cX5_asks 58 = .ok (.iload_n 2, 1) := by decide +kernel
theorem dX5_asks_59 : decode cX5_asks 59 = .ok (.invokevirtual 55, 3) := by decide +kernel
theorem dX5_asks_62 : decode cX5_asks 62 = .ok (.iastore, 1) := by decide +kernel
theorem dX5_asks_63 : decode cX5_asks 63 = .ok (.iinc 3 1, 3) := by decide +kernel
theorem dX5_asks_66 : decode cX5_asks 66 = .ok (.goto (-48), 3) := by decide +kernel
theorem dX5_asks_69 : decode cX5_asks 69 = .ok (.return_, 1) := by decide +kernel
set_option maxRecDepth 20000 in
theorem ggX5_values_X5_isOpen : GoodIn wsX5_values wsX5_isOpen := goodIn_r _ [10, 11, 18, 19, 20, 21, 22, 23] (by decide +kernel) (by decide +kernel)
set_option maxRecDepth 20000 in
theorem gX5_values_X5_isOpen : GoodIn wsX5_values (wsV RX5 57 RX5 yX5_isOpen wsX5_isOpen) := goodIn_app (goodIn_of _ (by decide +kernel)) ggX5_values_X5_isOpen
set_option maxRecDepth 20000 in
theorem ggX5_values_X5_worthBy : GoodIn wsX5_values wsX5_worthBy := goodIn_r _ [15, 1, 16, 17, 18, 19, 20, 21, 22, 23] (by decide +kernel) (by decide +kernel)
set_option maxRecDepth 20000 in
theorem gX5_values_X5_worthBy : GoodIn wsX5_values (wsV RX5 61 RX5 yX5_worthBy wsX5_worthBy) := goodIn_app (goodIn_of _ (by decide +kernel)) ggX5_values_X5_worthBy
theorem dX5_values_0 : decode cX5_values 0 = .ok (.iconst 0, 1) := by decide +kernel
theorem dX5_values_1 : decode cX5_values 1 = .ok (.istore_n 2, 1) := by decide +kernel
theorem dX5_values_2 : decode cX5_values 2 = .ok (.iload_n 2, 1) := by decide +kernel
theorem dX5_values_3 : decode cX5_values 3 = .ok (.bipush 64, 2) := by decide +kernel
theorem dX5_values_5 : decode cX5_values 5 = .ok (.if_icmp .ge 75, 3) := by decide +kernel
theorem dX5_values_8 : decode cX5_values 8 = .ok (.aload_n 0, 1) := by decide +kernel
theorem dX5_values_9 : decode cX5_values 9 = .ok (.getfield 21, 3) := by decide +kernel
theorem dX5_values_12 : decode cX5_values 12 = .ok (.iload_n 1, 1) := by decide +kernel
theorem dX5_values_13 : decode cX5_values 13 = .ok (.iconst 1, 1) := by decide +kernel
theorem dX5_values_14 : decode cX5_values 14 = .ok (.iadd, 1) := by decide +kernel
theorem dX5_values_15 : decode cX5_values 15 = .ok (.bipush 64, 2) := by decide +kernel
theorem dX5_values_17 : decode cX5_values 17 = .ok (.imul, 1) := by decide +kernel
theorem dX5_values_18 : decode cX5_values 18 = .ok (.iload_n 2, 1) := by decide +kernel
theorem dX5_values_19 : decode cX5_values 19 = .ok (.iadd, 1) := by decide +kernel
theorem dX5_values_20 : decode cX5_values 20 = .ok (.iaload, 1) := by decide +kernel
theorem dX5_values_21 : decode cX5_values 21 = .ok (.istore_n 3, 1) := by decide +kernel
theorem dX5_values_22 : decode cX5_values 22 = .ok (.iconst 0, 1) := by decide +kernel
theorem dX5_values_23 : decode cX5_values 23 = .ok (.istore 4, 2) := by decide +kernel
theorem dX5_values_25 : decode cX5_values 25 = .ok (.iload 4, 2) := by decide +kernel
theorem dX5_values_27 : decode cX5_values 27 = .ok (.bipush 6, 2) := by decide +kernel
theorem dX5_values_29 : decode cX5_values 29 = .ok (.if_icmp .ge 33, 3) := by decide +kernel
theorem dX5_values_32 : decode cX5_values 32 = .ok (.aload_n 0, 1) := by decide +kernel
theorem dX5_values_33 : decode cX5_values 33 = .ok (.iload_n 1, 1) := by decide +kernel
theorem dX5_values_34 : decode cX5_values 34 = .ok (.iload 4, 2) := by decide +kernel
theorem dX5_values_36 : decode cX5_values 36 = .ok (.iload_n 2, 1) := by decide +kernel
theorem dX5_values_37 : decode cX5_values 37 = .ok (.invokevirtual 57, 3) := by decide +kernel
theorem dX5_values_40 : decode cX5_values 40 = .ok (.ifCond .eq 16, 3) := by decide +kernel
theorem dX5_values_43 : decode cX5_values 43 = .ok (.iload_n 3, 1) := by decide +kernel
theorem dX5_values_44 : decode cX5_values 44 = .ok (.aload_n 0, 1) := by decide +kernel
theorem dX5_values_45 : decode cX5_values 45 = .ok (.iload_n 1, 1) := by decide +kernel
theorem dX5_values_46 : decode cX5_values 46 = .ok (.iload 4, 2) := by decide +kernel
theorem dX5_values_48 : decode cX5_values 48 = .ok (.iload_n 2, 1) := by decide +kernel
theorem dX5_values_49 : decode cX5_values 49 = .ok (.invokevirtual 61, 3) := by decide +kernel
theorem dX5_values_52 : decode cX5_values 52 = .ok (.invokestatic 65, 3) := by decide +kernel
theorem dX5_values_55 : decode cX5_values 55 = .ok (.istore_n 3, 1) := by decide +kernel
theorem dX5_values_56 : decode cX5_values 56 = .ok (.iinc 4 1, 3) := by decide +kernel
theorem dX5_values_59 : decode cX5_values 59 = .ok (.goto (-34), 3) := by decide +kernel
theorem dX5_values_62 : decode cX5_values 62 = .ok (.aload_n 0, 1) := by decide +kernel
theorem dX5_values_63 : decode cX5_values 63 = .ok (.getfield 21, 3) := by decide +kernel
theorem dX5_values_66 : decode cX5_values 66 = .ok (.iload_n 1, 1) := by decide +kernel
theorem dX5_values_67 : decode cX5_values 67 = .ok (.bipush 64, 2) := by decide +kernel
theorem dX5_values_69 : decode cX5_values 69 = .ok (.imul, 1) := by decide +kernel
theorem dX5_values_70 : decode cX5_values 70 = .ok (.iload_n 2, 1) := by decide +kernel
theorem dX5_values_71 : decode cX5_values 71 = .ok (.iadd, 1) := by decide +kernel
theorem dX5_values_72 : decode cX5_values 72 = .ok (.iload_n 3, 1) := by decide +kernel
theorem dX5_values_73 : decode cX5_values 73 = .ok (.iastore, 1) := by decide +kernel
theorem dX5_values_74 : decode cX5_values 74 = .ok (.iinc 2 1, 3) := by decide +kernel
theorem dX5_values_77 : decode cX5_values 77 = .ok (.goto (-75), 3) := by decide +kernel
theorem dX5_values_80 : decode cX5_values 80 = .ok (.return_, 1) := by decide +kernel
set_option maxRecDepth 20000 in
theorem ggX5_choice_X5_isOpen : GoodIn wsX5_choice wsX5_isOpen := goodIn_r _ [6, 7, 14, 15, 16, 17, 18, 19] (by decide +kernel) (by decide +kernel)
set_option maxRecDepth 20000 in
theorem gX5_choice_X5_isOpen : GoodIn wsX5_choice (wsV RX5 57 RX5 yX5_isOpen wsX5_isOpen) := goodIn_app (goodIn_of _ (by decide +kernel)) ggX5_choice_X5_isOpen
set_option maxRecDepth 20000 in
theorem ggX5_choice_X5_worthBy : GoodIn wsX5_choice wsX5_worthBy := goodIn_r _ [11, 1, 12, 13, 14, 15, 16, 17, 18, 19] (by decide +kernel) (by decide +kernel)
set_option maxRecDepth 20000 in
theorem gX5_choice_X5_worthBy : GoodIn wsX5_choice (wsV RX5 61 RX5 yX5_worthBy wsX5_worthBy) := goodIn_app (goodIn_of _ (by decide +kernel)) ggX5_choice_X5_worthBy
theorem dX5_choice_0 : decode cX5_choice 0 = .ok (.iconst 0, 1) := by decide +kernel
theorem dX5_choice_1 : decode cX5_choice 1 = .ok (.istore_n 3, 1) := by decide +kernel
theorem dX5_choice_2 : decode cX5_choice 2 = .ok (.iload_n 3, 1) := by decide +kernel
theorem dX5_choice_3 : decode cX5_choice 3 = .ok (.bipush 6, 2) := by decide +kernel
theorem dX5_choice_5 : decode cX5_choice 5 = .ok (.if_icmp .ge 42, 3) := by decide +kernel
theorem dX5_choice_8 : decode cX5_choice 8 = .ok (.aload_n 0, 1) := by decide +kernel
theorem dX5_choice_9 : decode cX5_choice 9 = .ok (.iload_n 1, 1) := by decide +kernel
theorem dX5_choice_10 : decode cX5_choice 10 = .ok (.iload_n 3, 1) := by decide +kernel
theorem dX5_choice_11 : decode cX5_choice 11 = .ok (.iload_n 2, 1) := by decide +kernel
theorem dX5_choice_12 : decode cX5_choice 12 = .ok (.invokevirtual 57, 3) := by decide +kernel
theorem dX5_choice_15 : decode cX5_choice 15 = .ok (.ifCond .eq 26, 3) := by decide +kernel
theorem dX5_choice_18 : decode cX5_choice 18 = .ok (.aload_n 0, 1) := by decide +kernel
theorem dX5_choice_19 : decode cX5_choice 19 = .ok (.iload_n 1, 1) := by decide +kernel
theorem dX5_choice_20 : decode cX5_choice 20 = .ok (.iload_n 3, 1) := by decide +kernel
theorem dX5_choice_21 : decode cX5_choice 21 = .ok (.iload_n 2, 1) := by decide +kernel
theorem dX5_choice_22 : decode cX5_choice 22 = .ok (.invokevirtual 61, 3) := by decide +kernel
theorem dX5_choice_25 : decode cX5_choice 25 = .ok (.aload_n 0, 1) := by decide +kernel
theorem dX5_choice_26 : decode cX5_choice 26 = .ok (.getfield 21, 3) := by decide +kernel
theorem dX5_choice_29 : decode cX5_choice 29 = .ok (.iload_n 1, 1) := by decide +kernel
theorem dX5_choice_30 : decode cX5_choice 30 = .ok (.bipush 64, 2) := by decide +kernel
theorem dX5_choice_32 : decode cX5_choice 32 = .ok (.imul, 1) := by decide +kernel
theorem dX5_choice_33 : decode cX5_choice 33 = .ok (.iload_n 2, 1) := by decide +kernel
theorem dX5_choice_34 : decode cX5_choice 34 = .ok (.iadd, 1) := by decide +kernel
theorem dX5_choice_35 : decode cX5_choice 35 = .ok (.iaload, 1) := by decide +kernel
theorem dX5_choice_36 : decode cX5_choice 36 = .ok (.if_icmp .ne 5, 3) := by decide +kernel
theorem dX5_choice_39 : decode cX5_choice 39 = .ok (.iload_n 3, 1) := by decide +kernel
theorem dX5_choice_40 : decode cX5_choice 40 = .ok (.ireturn, 1) := by decide +kernel
theorem dX5_choice_41 : decode cX5_choice 41 = .ok (.iinc 3 1, 3) := by decide +kernel
theorem dX5_choice_44 : decode cX5_choice 44 = .ok (.goto (-42), 3) := by decide +kernel
theorem dX5_choice_47 : decode cX5_choice 47 = .ok (.bipush (-5), 2) := by decide +kernel
theorem dX5_choice_49 : decode cX5_choice 49 = .ok (.ireturn, 1) := by decide +kernel
theorem dX5_isOpen_0 : decode cX5_isOpen 0 = .ok (.aload_n 0, 1) := by decide +kernel
theorem dX5_isOpen_1 : decode cX5_isOpen 1 = .ok (.getfield 15, 3) := by decide +kernel
theorem dX5_isOpen_4 : decode cX5_isOpen 4 = .ok (.iload_n 1, 1) := by decide +kernel
theorem dX5_isOpen_5 : decode cX5_isOpen 5 = .ok (.iaload, 1) := by decide +kernel
theorem dX5_isOpen_6 : decode cX5_isOpen 6 = .ok (.iload_n 3, 1) := by decide +kernel
theorem dX5_isOpen_7 : decode cX5_isOpen 7 = .ok (.iconst (-1), 1) := by decide +kernel
theorem dX5_isOpen_8 : decode cX5_isOpen 8 = .ok (.ixor, 1) := by decide +kernel
theorem dX5_isOpen_9 : decode cX5_isOpen 9 = .ok (.iand, 1) := by decide +kernel
theorem dX5_isOpen_10 : decode cX5_isOpen 10 = .ok (.iload_n 2, 1) := by decide +kernel
theorem dX5_isOpen_11 : decode cX5_isOpen 11 = .ok (.ishr, 1) := by decide +kernel
theorem dX5_isOpen_12 : decode cX5_isOpen 12 = .ok (.iconst 1, 1) := by decide +kernel
theorem dX5_isOpen_13 : decode cX5_isOpen 13 = .ok (.iand, 1) := by decide +kernel
theorem dX5_isOpen_14 : decode cX5_isOpen 14 = .ok (.ifCond .eq 7, 3) := by decide +kernel
theorem dX5_isOpen_17 : decode cX5_isOpen 17 = .ok (.iconst 1, 1) := by decide +kernel
theorem dX5_isOpen_18 : decode cX5_isOpen 18 = .ok (.goto 4, 3) := by decide +kernel
theorem dX5_isOpen_21 : decode cX5_isOpen 21 = .ok (.iconst 0, 1) := by decide +kernel
theorem dX5_isOpen_22 : decode cX5_isOpen 22 = .ok (.ireturn, 1) := by decide +kernel
theorem dX5_worthBy_0 : decode cX5_worthBy 0 = .ok (.aload_n 0, 1) := by decide +kernel
theorem dX5_worthBy_1 : decode cX5_worthBy 1 = .ok (.getfield 21, 3) := by decide +kernel
theorem dX5_worthBy_4 : decode cX5_worthBy 4 = .ok (.iload_n 1, 1) := by decide +kernel
theorem dX5_worthBy_5 : decode cX5_worthBy 5 = .ok (.iconst 1, 1) := by decide +kernel
theorem dX5_worthBy_6 : decode cX5_worthBy 6 = .ok (.iadd, 1) := by decide +kernel
theorem dX5_worthBy_7 : decode cX5_worthBy 7 = .ok (.bipush 64, 2) := by decide +kernel
theorem dX5_worthBy_9 : decode cX5_worthBy 9 = .ok (.imul, 1) := by decide +kernel
theorem dX5_worthBy_10 : decode cX5_worthBy 10 = .ok (.iload_n 3, 1) := by decide +kernel
theorem dX5_worthBy_11 : decode cX5_worthBy 11 = .ok (.iconst 1, 1) := by decide +kernel
theorem dX5_worthBy_12 : decode cX5_worthBy 12 = .ok (.iload_n 2, 1) := by decide +kernel
theorem dX5_worthBy_13 : decode cX5_worthBy 13 = .ok (.ishl, 1) := by decide +kernel
theorem dX5_worthBy_14 : decode cX5_worthBy 14 = .ok (.ior, 1) := by decide +kernel
theorem dX5_worthBy_15 : decode cX5_worthBy 15 = .ok (.iadd, 1) := by decide +kernel
theorem dX5_worthBy_16 : decode cX5_worthBy 16 = .ok (.iaload, 1) := by decide +kernel
theorem dX5_worthBy_17 : decode cX5_worthBy 17 = .ok (.istore 4, 2) := by decide +kernel
theorem dX5_worthBy_19 : decode cX5_worthBy 19 = .ok (.iload 4, 2) := by decide +kernel
theorem dX5_worthBy_21 : decode cX5_worthBy 21 = .ok (.ldc 70, 2) := by decide +kernel
theorem dX5_worthBy_23 : decode cX5_worthBy 23 = .ok (.iadd, 1) := by decide +kernel
theorem dX5_worthBy_24 : decode cX5_worthBy 24 = .ok (.aload_n 0, 1) := by decide +kernel
theorem dX5_worthBy_25 : decode cX5_worthBy 25 = .ok (.getfield 18, 3) := by decide +kernel
theorem dX5_worthBy_28 : decode cX5_worthBy 28 = .ok (.iload_n 1, 1) := by decide +kernel
theorem dX5_worthBy_29 : decode cX5_worthBy 29 = .ok (.bipush 6, 2) := by decide +kernel
theorem dX5_worthBy_31 : decode cX5_worthBy 31 = .ok (.imul, 1) := by decide +kernel
theorem dX5_worthBy_32 : decode cX5_worthBy 32 = .ok (.iload_n 2, 1) := by decide +kernel
theorem dX5_worthBy_33 : decode cX5_worthBy 33 = .ok (.iadd, 1) := by decide +kernel
theorem dX5_worthBy_34 : decode cX5_worthBy 34 = .ok (.iaload, 1) := by decide +kernel
theorem dX5_worthBy_35 : decode cX5_worthBy 35 = .ok (.isub, 1) := by decide +kernel
theorem dX5_worthBy_36 : decode cX5_worthBy 36 = .ok (.ireturn, 1) := by decide +kernel
theorem dX6_init_0 : decode cX6_init 0 = .ok (.aload_n 0, 1) := by decide +kernel
theorem dX6_init_1 : decode cX6_init 1 = .ok (.invokespecial 3, 3) := by decide +kernel
theorem dX6_init_4 : decode cX6_init 4 = .ok (.aload_n 0, 1) := by decide +kernel
theorem dX6_init_5 : decode cX6_init 5 = .ok (.bipush 60, 2) := by decide +kernel
theorem dX6_init_7 : decode cX6_init 7 = .ok (.newarray .long, 2) := by decide +kernel
theorem dX6_init_9 : decode cX6_init 9 = .ok (.putfield 9, 3) := by decide +kernel
theorem dX6_init_12 : decode cX6_init 12 = .ok (.aload_n 0, 1) := by decide +kernel
theorem dX6_init_13 : decode cX6_init 13 = .ok (.iconst (-1), 1) := by decide +kernel
theorem dX6_init_14 : decode cX6_init 14 = .ok (.putfield 15, 3) := by decide +kernel
theorem dX6_init_17 : decode cX6_init 17 = .ok (.return_, 1) := by decide +kernel
theorem dX6_becomes_0 : decode cX6_becomes 0 = .ok (.aload_n 0, 1) := by decide +kernel
theorem dX6_becomes_1 : decode cX6_becomes 1 = .ok (.iload_n 1, 1) := by decide +kernel
theorem dX6_becomes_2 : decode cX6_becomes 2 = .ok (.putfield 15, 3) := by decide +kernel
theorem dX6_becomes_5 : decode cX6_becomes 5 = .ok (.aload_n 0, 1) := by decide +kernel
theorem dX6_becomes_6 : decode cX6_becomes 6 = .ok (.iload_n 2, 1) := by decide +kernel
theorem dX6_becomes_7 : decode cX6_becomes 7 = .ok (.putfield 19, 3) := by decide +kernel
theorem dX6_becomes_10 : decode cX6_becomes 10 = .ok (.iconst 0, 1) := by decide +kernel
theorem dX6_becomes_11 : decode cX6_becomes 11 = .ok (.istore_n 3, 1) := by decide +kernel
theorem dX6_becomes_12 : decode cX6_becomes 12 = .ok (.iload_n 3, 1) := by decide +kernel
theorem dX6_becomes_13 : decode cX6_becomes 13 = .ok (.bipush 60, 2) := by decide +kernel
theorem dX6_becomes_15 : decode cX6_becomes 15 = .ok (.if_icmp .ge 16, 3) := by decide +kernel
theorem dX6_becomes_18 : decode cX6_becomes 18 = .ok (.aload_n 0, 1) := by decide +kernel
theorem dX6_becomes_19 : decode cX6_becomes 19 = .ok (.getfield 9, 3) := by decide +kernel
theorem dX6_becomes_22 : decode cX6_becomes 22 = .ok (.iload_n 3, 1) := by decide +kernel
theorem dX6_becomes_23 : decode cX6_becomes 23 = .ok (.lconst 0, 1) := by decide +kernel
theorem dX6_becomes_24 : decode cX6_becomes 24 = .ok (.lastore, 1) := by decide +kernel
theorem dX6_becomes_25 : decode cX6_becomes 25 = .ok (.iinc 3 1, 3) := by decide +kernel
theorem dX6_becomes_28 : decode cX6_becomes 28 = .ok (.goto (-16), 3) := by decide +kernel
theorem dX6_becomes_31 : decode cX6_becomes 31 = .ok (.return_, 1) := by decide +kernel
theorem dX6_has_0 : decode cX6_has 0 = .ok (.lload_n 1, 1) := by decide +kernel
theorem dX6_has_1 : decode cX6_has 1 = .ok (.lconst 0, 1) := by decide +kernel
theorem dX6_has_2 : decode cX6_has 2 = .ok (.lcmp, 1) := by decide +kernel
theorem dX6_has_3 : decode cX6_has 3 = .ok (.ifCond .lt 17, 3) := by decide +kernel
theorem dX6_has_6 : decode cX6_has 6 = .ok (.lload_n 1, 1) := by decide +kernel
theorem dX6_has_7 : decode cX6_has 7 = .ok (.aload_n 0, 1) := by decide +kernel
theorem dX6_has_8 : decode cX6_has 8 = .ok (.getfield 19, 3) := by decide +kernel
theorem dX6_has_11 : decode cX6_has 11 = .ok (.i2l, 1) := by decide +kernel
theorem dX6_has_12 : decode cX6_has 12 = .ok (.lcmp, 1) := by decide +kernel
theorem dX6_has_13 : decode cX6_has 13 = .ok (.ifCond .ge 7, 3) := by decide +kernel
theorem dX6_has_16 : decode cX6_has 16 = .ok (.iconst 1, 1) := by decide +kernel
theorem dX6_has_17 : decode cX6_has 17 = .ok (.goto 4, 3) := by decide +kernel
theorem dX6_has_20 : decode cX6_has 20 = .ok (.iconst 0, 1) := by decide +kernel
theorem dX6_has_21 : decode cX6_has 21 = .ok (.ireturn, 1) := by decide +kernel
theorem dX6_hasRun_0 : decode cX6_hasRun 0 = .ok (.iload_n 2, 1) := by decide +kernel
theorem dX6_hasRun_1 : decode cX6_hasRun 1 = .ok (.ifCond .lt 21, 3) := by decide +kernel
theorem dX6_hasRun_4 : decode cX6_hasRun 4 = .ok (.iload_n 1, 1) := by decide +kernel
theorem dX6_hasRun_5 : decode cX6_hasRun 5 = .ok (.ifCond .lt 17, 3) := by decide +kernel
theorem dX6_hasRun_8 : decode cX6_hasRun 8 = .ok (.iload_n 1, 1) := by decide +kernel
theorem dX6_hasRun_9 : decode cX6_hasRun 9 = .ok (.aload_n 0, 1) := by decide +kernel
theorem dX6_hasRun_10 : decode cX6_hasRun 10 = .ok (.getfield 19, 3) := by decide +kernel
theorem dX6_hasRun_13 : decode cX6_hasRun 13 = .ok (.iload_n 2, 1) := by decide +kernel
theorem dX6_hasRun_14 : decode cX6_hasRun 14 = .ok (.isub, 1) := by decide +kernel
theorem dX6_hasRun_15 : decode cX6_hasRun 15 = .ok (.if_icmp .gt 7, 3) := by decide +kernel
theorem dX6_hasRun_18 : decode cX6_hasRun 18 = .ok (.iconst 1, 1) := by decide +kernel
theorem dX6_hasRun_19 : decode cX6_hasRun 19 = .ok (.goto 4, 3) := by decide +kernel
theorem dX6_hasRun_22 : decode cX6_hasRun 22 = .ok (.iconst 0, 1) := by decide +kernel
theorem dX6_hasRun_23 : decode cX6_hasRun 23 = .ok (.ireturn, 1) := by decide +kernel
theorem dX6_fitted_0 : decode cX6_fitted 0 = .ok (.aload_n 0, 1) := by decide +kernel
theorem dX6_fitted_1 : decode cX6_fitted 1 = .ok (.getfield 15, 3) := by decide +kernel
theorem dX6_fitted_4 : decode cX6_fitted 4 = .ok (.tableswitch 48 0 3 #[32, 37, 42, 46], 32) := by decide +kernel
theorem dX6_fitted_36 : decode cX6_fitted 36 = .ok (.lload_n 1, 1) := by decide +kernel
theorem dX6_fitted_37 : decode cX6_fitted 37 = .ok (.l2i, 1) := by decide +kernel
theorem dX6_fitted_38 : decode cX6_fitted 38 = .ok (.i2b, 1) := by decide +kernel
theorem dX6_fitted_39 : decode cX6_fitted 39 = .ok (.i2l, 1) := by decide +kernel
theorem dX6_fitted_40 : decode cX6_fitted 40 = .ok (.lreturn, 1) := by decide +kernel
theorem dX6_fitted_41 : decode cX6_fitted 41 = .ok (.lload_n 1, 1) := by decide +kernel
theorem dX6_fitted_42 : decode cX6_fitted 42 = .ok (.l2i, 1) := by decide +kernel
theorem dX6_fitted_43 : decode cX6_fitted 43 = .ok (.i2s, 1) := by decide +kernel
theorem dX6_fitted_44 : decode cX6_fitted 44 = .ok (.i2l, 1) := by decide +kernel
theorem dX6_fitted_45 : decode cX6_fitted 45 = .ok (.lreturn, 1) := by decide +kernel
theorem dX6_fitted_46 : decode cX6_fitted 46 = .ok (.lload_n 1, 1) := by decide +kernel
theorem dX6_fitted_47 : decode cX6_fitted 47 = .ok (.l2i, 1) := by decide +kernel
theorem dX6_fitted_48 : decode cX6_fitted 48 = .ok (.i2l, 1) := by decide +kernel
theorem dX6_fitted_49 : decode cX6_fitted 49 = .ok (.lreturn, 1) := by decide +kernel
theorem dX6_fitted_50 : decode cX6_fitted 50 = .ok (.lload_n 1, 1) := by decide +kernel
theorem dX6_fitted_51 : decode cX6_fitted 51 = .ok (.lreturn, 1) := by decide +kernel
theorem dX6_fitted_52 : decode cX6_fitted 52 = .ok (.lload_n 1, 1) := by decide +kernel
theorem dX6_fitted_53 : decode cX6_fitted 53 = .ok (.lconst 0, 1) := by decide +kernel
theorem dX6_fitted_54 : decode cX6_fitted 54 = .ok (.lcmp, 1) := by decide +kernel
theorem dX6_fitted_55 : decode cX6_fitted 55 = .ok (.ifCond .eq 7, 3) := by decide +kernel
theorem dX6_fitted_58 : decode cX6_fitted 58 = .ok (.lconst 1, 1) := by decide +kernel
theorem dX6_fitted_59 : decode cX6_fitted 59 = .ok (.goto 4, 3) := by decide +kernel
theorem dX6_fitted_62 : decode cX6_fitted 62 = .ok (.lconst 0, 1) := by decide +kernel
theorem dX6_fitted_63 : decode cX6_fitted 63 = .ok (.lreturn, 1) := by decide +kernel
theorem dX7_init_0 : decode cX7_init 0 = .ok (.aload_n 0, 1) := by decide +kernel
theorem dX7_init_1 : decode cX7_init 1 = .ok (.invokespecial 3, 3) := by decide +kernel
theorem dX7_init_4 : decode cX7_init 4 = .ok (.aload_n 0, 1) := by decide +kernel
theorem dX7_init_5 : decode cX7_init 5 = .ok (.bipush 100, 2) := by decide +kernel
theorem dX7_init_7 : decode cX7_init 7 = .ok (.newarray .byte, 2) := by decide +kernel
theorem dX7_init_9 : decode cX7_init 9 = .ok (.putfield 9, 3) := by decide +kernel
theorem dX7_init_12 : decode cX7_init 12 = .ok (.return_, 1) := by decide +kernel
theorem dX7_adds_0 : decode cX7_adds 0 = .ok (.aload_n 0, 1) := by decide +kernel
theorem dX7_adds_1 : decode cX7_adds 1 = .ok (.getfield 15, 3) := by decide +kernel
theorem dX7_adds_4 : decode cX7_adds 4 = .ok (.aload_n 0, 1) := by decide +kernel
theorem dX7_adds_5 : decode cX7_adds 5 = .ok (.getfield 9, 3) := by decide +kernel
theorem dX7_adds_8 : decode cX7_adds 8 = .ok (.arraylength, 1) := by decide +kernel
theorem dX7_adds_9 : decode cX7_adds 9 = .ok (.if_icmp .ge 24, 3) := by decide +kernel
theorem dX7_adds_12 : decode cX7_adds 12 = .ok (.aload_n 0, 1) := by decide +kernel
theorem dX7_adds_13 : decode cX7_adds 13 = .ok (.getfield 9, 3) := by decide +kernel
theorem dX7_adds_16 : decode cX7_adds 16 = .ok (.aload_n 0, 1) := by decide +kernel
theorem dX7_adds_17 : decode cX7_adds 17 = .ok (.getfield 15, 3) := by decide +kernel
theorem dX7_adds_20 : decode cX7_adds 20 = .ok (.iload_n 1, 1) := by decide +kernel
theorem dX7_adds_21 : decode cX7_adds 21 = .ok (.i2b, 1) := by decide +kernel
theorem dX7_adds_22 : decode cX7_adds 22 = .ok (.bastore, 1) := by decide +kernel
theorem dX7_adds_23 : decode cX7_adds 23 = .ok (.aload_n 0, 1) := by decide +kernel
theorem dX7_adds_24 : decode cX7_adds 24 = .ok (.dup, 1) := by decide +kernel
theorem dX7_adds_25 : decode cX7_adds 25 = .ok (.getfield 15, 3) := by decide +kernel
theorem dX7_adds_28 : decode cX7_adds 28 = .ok (.iconst 1, 1) := by decide +kernel
theorem dX7_adds_29 : decode cX7_adds 29 = .ok (.iadd, 1) := by decide +kernel
theorem dX7_adds_30 : decode cX7_adds 30 = .ok (.putfield 15, 3) := by decide +kernel
theorem dX7_adds_33 : decode cX7_adds 33 = .ok (.aload_n 0, 1) := by decide +kernel
theorem dX7_adds_34 : decode cX7_adds 34 = .ok (.getfield 15, 3) := by decide +kernel
theorem dX7_adds_37 : decode cX7_adds 37 = .ok (.ireturn, 1) := by decide +kernel
set_option maxRecDepth 20000 in
theorem ggX7_makes_X2_empties : GoodIn wsX7_makes wsX2_empties := goodIn_r _ [9, 10, 11, 175, 176, 177] (by decide +kernel) (by decide +kernel)
set_option maxRecDepth 20000 in
theorem gX7_makes_X2_empties : GoodIn wsX7_makes (wsV RX7 29 RX2 yX2_empties wsX2_empties) := goodIn_app (goodIn_of _ (by decide +kernel)) ggX7_makes_X2_empties
set_option maxRecDepth 20000 in
theorem ggX7_makes_X7_clause : GoodIn wsX7_makes wsX7_clause := goodIn_r _ [16, 3, 2, 17, 4, 18, 19, 20, 15, 21, 22, 23, 24, 25, 26, 27, 28, 29, 30, 31, 32, 33, 34, 35, 36, 37, 38, 39, 40, 41, 42, 43, 44, 45, 46, 47, 48, 49, 50, 51, 52, 53, 54, 55, 56, 57, 58, 59, 60, 61, 62, 63, 64, 65, 66, 67, 68, 69, 70, 71, 72, 73, 74, 75, 76, 77, 78, 79, 80, 81, 82, 83, 84, 85, 86, 87, 88, 89, 90, 91, 92, 93, 8, 94, 10, 95, 96, 97, 98, 99, 100, 101, 102, 103, 104, 105, 106, 107, 108, 109, 110, 111, 112, 113, 114, 115, 116, 117, 118, 119, 120, 121, 122, 123, 124, 125, 126, 127, 128, 129, 130, 131, 132, 133, 134, 135, 136, 137, 138, 139, 140, 141, 142, 143, 144, 145, 146, 147, 148, 149, 150, 151, 152, 153, 154, 155, 156, 157, 158, 159, 160, 161, 162, 163, 164, 165, 166, 167, 168, 169, 170, 171, 172, 173, 174, 175, 176, 177] (by decide +kernel) (by decide +kernel)
set_option maxRecDepth 20000 in
theorem gX7_makes_X7_clause : GoodIn wsX7_makes (wsV RX7 34 RX7 yX7_clause wsX7_clause) := goodIn_app (goodIn_of _ (by decide +kernel)) ggX7_makes_X7_clause
set_option maxRecDepth 20000 in
theorem ggX7_makes_X7_takes : GoodIn wsX7_makes wsX7_takes := goodIn_r _ [79, 3, 2, 17, 170, 171, 172, 173, 174] (by decide +kernel) (by decide +kernel)
set_option maxRecDepth 20000 in
theorem gX7_makes_X7_takes : GoodIn wsX7_makes (wsV RX7 38 RX7 yX7_takes wsX7_takes) := goodIn_app (goodIn_of _ (by decide +kernel)) ggX7_makes_X7_takes
theorem dX7_makes_0 : decode cX7_makes 0 = .ok (.aload_n 0, 1) := by decide +kernel
theorem dX7_makes_1 : decode cX7_makes 1 = .ok (.aload_n 0, 1) := by decide +kernel
theorem dX7_makes_2 : decode cX7_makes 2 = .ok (.getfield 15, 3) := by decide +kernel
theorem dX7_makes_5 : decode cX7_makes 5 = .ok (.putfield 19, 3) := by decide +kernel
theorem dX7_makes_8 : decode cX7_makes 8 = .ok (.aload_n 0, 1) := by decide +kernel
theorem dX7_makes_9 : decode cX7_makes 9 = .ok (.iconst 0, 1) := by decide +kernel
theorem dX7_makes_10 : decode cX7_makes 10 = .ok (.putfield 15, 3) := by decide +kernel
theorem dX7_makes_13 : decode cX7_makes 13 = .ok (.aload_n 0, 1) := by decide +kernel
theorem dX7_makes_14 : decode cX7_makes 14 = .ok (.iconst 0, 1) := by decide +kernel
theorem dX7_makes_15 : decode cX7_makes 15 = .ok (.putfield 22, 3) := by decide +kernel
theorem dX7_makes_18 : decode cX7_makes 18 = .ok (.aload_n 0, 1) := by decide +kernel
theorem dX7_makes_19 : decode cX7_makes 19 = .ok (.aload_n 1, 1) := by decide +kernel
theorem dX7_makes_20 : decode cX7_makes 20 = .ok (.putfield 25, 3) := by decide +kernel
theorem dX7_makes_23 : decode cX7_makes 23 = .ok (.aload_n 1, 1) := by decide +kernel
theorem dX7_makes_24 : decode cX7_makes 24 = .ok (.invokevirtual 29, 3) := by decide +kernel
theorem dX7_makes_27 : decode cX7_makes 27 = .ok (.iconst 1, 1) := by decide +kernel
theorem dX7_makes_28 : decode cX7_makes 28 = .ok (.istore_n 2, 1) := by decide +kernel
theorem dX7_makes_29 : decode cX7_makes 29 = .ok (.iload_n 2, 1) := by decide +kernel
theorem dX7_makes_30 : decode cX7_makes 30 = .ok (.bipush 10, 2) := by decide +kernel
theorem dX7_makes_32 : decode cX7_makes 32 = .ok (.if_icmp .gt 48, 3) := by decide +kernel
theorem dX7_makes_35 : decode cX7_makes 35 = .ok (.aload_n 0, 1) := by decide +kernel
theorem dX7_makes_36 : decode cX7_makes 36 = .ok (.invokevirtual 34, 3) := by decide +kernel
theorem dX7_makes_39 : decode cX7_makes 39 = .ok (.ifCond .ne 5, 3) := by decide +kernel
theorem dX7_makes_42 : decode cX7_makes 42 = .ok (.iconst 0, 1) := by decide +kernel
theorem dX7_makes_43 : decode cX7_makes 43 = .ok (.ireturn, 1) := by decide +kernel
theorem dX7_makes_44 : decode cX7_makes 44 = .ok (.aload_n 0, 1) := by decide +kernel
theorem dX7_makes_45 : decode cX7_makes 45 = .ok (.getfield 22, 3) := by decide +kernel
theorem dX7_makes_48 : decode cX7_makes 48 = .ok (.aload_n 0, 1) := by decide +kernel
theorem dX7_makes_49 : decode cX7_makes 49 = .ok (.getfield 19, 3) := by decide +kernel
theorem dX7_makes_52 : decode cX7_makes 52 = .ok (.if_icmp .ne 5, 3) := by decide +kernel
theorem dX7_makes_55 : decode cX7_makes 55 = .ok (.iconst 1, 1) := by decide +kernel
theorem dX7_makes_56 : decode cX7_makes 56 = .ok (.ireturn, 1) := by decide +kernel
theorem dX7_makes_57 : decode cX7_makes 57 = .ok (.iload_n 2, 1) := by decide +kernel
theorem dX7_makes_58 : decode cX7_makes 58 = .ok (.bipush 10, 2) := by decide +kernel
theorem dX7_makes_60 : decode cX7_makes 60 = .ok (.if_icmp .eq 12, 3) := by decide +kernel
theorem dX7_makes_63 : decode cX7_makes 63 = .ok (.aload_n 0, 1) := by decide +kernel
theorem dX7_makes_64 : decode cX7_makes 64 = .ok (.bipush 59, 2) := by decide +kernel
theorem dX7_makes_66 : decode cX7_makes 66 = .ok (.invokevirtual 38, 3) := by decide +kernel
theorem dX7_makes_69 : decode cX7_makes 69 = .ok (.ifCond .ne 5, 3) := by decide +kernel
theorem dX7_makes_72 : decode cX7_makes 72 = .ok (.iconst 0, 1) := by decide +kernel
theorem dX7_makes_73 : decode cX7_makes 73 = .ok (.ireturn, 1) := by decide +kernel
theorem dX7_makes_74 : decode cX7_makes 74 = .ok (.iinc 2 1, 3) := by decide +kernel
theorem dX7_makes_77 : decode cX7_makes 77 = .ok (.goto (-48), 3) := by decide +kernel
theorem dX7_makes_80 : decode cX7_makes 80 = .ok (.iconst 0, 1) := by decide +kernel
theorem dX7_makes_81 : decode cX7_makes 81 = .ok (.ireturn, 1) := by decide +kernel
set_option maxRecDepth 20000 in
theorem ggX7_clause_X7_rest : GoodIn wsX7_clause wsX7_rest := goodIn_r _ [9, 4, 10, 11, 12, 13, 8, 14, 15, 16, 17, 18, 19, 20, 21, 22, 23, 24, 25, 26, 27, 28, 29, 30, 31, 32, 33, 34, 35, 36, 37, 38, 39, 40, 41, 42, 43, 44, 45, 46, 47, 48, 49, 50, 51, 52, 53, 54, 55, 56, 57, 58, 59, 60, 61, 62, 63, 64, 65, 66, 67, 1, 2, 3, 68, 69, 70, 71, 160, 161, 162, 163, 164, 165, 166, 167] (by decide +kernel) (by decide +kernel)
set_option maxRecDepth 20000 in
theorem gX7_clause_X7_rest : GoodIn wsX7_clause (wsV RX7 42 RX7 yX7_rest wsX7_rest) := goodIn_app (goodIn_of _ (by decide +kernel)) ggX7_clause_X7_rest
set_option maxRecDepth 20000 in
theorem ggX7_clause_X7_takesAll : GoodIn wsX7_clause wsX7_takesAll := goodIn_r _ [14, 15, 16, 17, 18, 19, 20, 21, 22, 23, 24, 25, 26, 27, 28, 29, 30, 31, 32, 33, 34, 35, 36, 37, 38, 39, 40, 41, 42, 43, 44, 45, 46, 47, 48, 49, 50, 51, 52, 53, 54, 55, 56, 57, 58, 59, 60, 61, 62, 63, 64, 65, 66, 8, 67, 1, 2, 3, 160, 161, 162, 163, 164] (by decide +kernel) (by decide +kernel)
set_option maxRecDepth 20000 in
theorem gX7_clause_X7_takesAll : GoodIn wsX7_clause (wsV RX7 49 RX7 yX7_takesAll wsX7_takesAll) := goodIn_app (goodIn_of _ (by decide +kernel)) ggX7_clause_X7_takesAll
set_option maxRecDepth 20000 in
theorem ggX7_clause_X7_number : GoodIn wsX7_clause wsX7_number := goodIn_r _ [71, 1, 2, 3, 160, 161, 162, 163, 164] (by decide +kernel) (by decide +kernel)
set_option maxRecDepth 20000 in
theorem gX7_clause_X7_number : GoodIn wsX7_clause (wsV RX7 53 RX7 yX7_number wsX7_number) := goodIn_app (goodIn_of _ (by decide +kernel)) ggX7_clause_X7_number
set_option maxRecDepth 20000 in
theorem ggX7_clause_X7_takes : GoodIn wsX7_clause wsX7_takes := goodIn_r _ [67, 1, 2, 3, 160, 161, 162, 163, 164] (by decide +kernel) (by decide +kernel)
set_option maxRecDepth 20000 in
theorem gX7_clause_X7_takes : GoodIn wsX7_clause (wsV RX7 38 RX7 yX7_takes wsX7_takes) := goodIn_app (goodIn_of _ (by decide +kernel)) ggX7_clause_X7_takes
set_option maxRecDepth 20000 in
theorem ggX7_clause_X7_anyHolds : GoodIn wsX7_clause wsX7_anyHolds := goodIn_r _ [75, 4, 76, 77, 78, 8, 64, 65, 66, 67, 1, 2, 3, 79, 80, 81, 82, 83, 84, 85, 86, 87, 88, 89, 90, 72, 73, 74, 91, 92, 93, 94, 95, 96, 97, 98, 99, 100, 101, 18, 102, 103, 104, 105, 106, 20, 31, 32, 33, 34, 25, 26, 107, 16, 17, 19, 21, 22, 23, 24, 108, 109, 37, 110, 111, 112, 113, 114, 115, 116, 117, 118, 119, 120, 121, 122, 123, 124, 125, 49, 126, 127, 128, 129, 130, 131, 132, 133, 134, 135, 54, 55, 56, 136, 137, 138, 42, 139, 140, 45, 141, 142, 143, 144, 58, 59, 60, 61, 62, 63, 145, 146, 147, 148, 149, 150, 151, 152, 153, 154, 155, 156, 157, 158, 159, 68, 69, 70, 71, 160, 161, 162, 163, 164, 165, 166, 167] (by decide +kernel) (by decide +kernel)
set_option maxRecDepth 20000 in
theorem gX7_clause_X7_anyHolds : GoodIn wsX7_clause (wsV RX7 57 RX7 yX7_anyHolds wsX7_anyHolds) := goodIn_app (goodIn_of _ (by decide +kernel)) ggX7_clause_X7_anyHolds
set_option maxRecDepth 20000 in
theorem ggX7_clause_X2_adds : GoodIn wsX7_clause wsX2_adds := goodIn_r _ [83, 84, 85, 165, 166, 167] (by decide +kernel) (by decide +kernel)
set_option maxRecDepth 20000 in
theorem gX7_clause_X2_adds : GoodIn wsX7_clause (wsV RX7 61 RX2 yX2_adds wsX2_adds) := goodIn_app (goodIn_of _ (by decide +kernel)) ggX7_clause_X2_adds
theorem dX7_clause_0 : decode cX7_clause 0 = .ok (.aload_n 0, 1) := by decide +kernel
theorem dX7_clause_1 : decode cX7_clause 1 = .ok (.getfield 22, 3) := by decide +kernel
theorem dX7_clause_4 : decode cX7_clause 4 = .ok (.aload_n 0, 1) := by decide +kernel
theorem dX7_clause_5 : decode cX7_clause 5 = .ok (.getfield 19, 3) := by decide +kernel
theorem dX7_clause_8 : decode cX7_clause 8 = .ok (.if_icmp .ge 22, 3) := by decide +kernel
theorem dX7_clause_11 : decode cX7_clause 11 = .ok (.aload_n 0, 1) := by decide +kernel
theorem dX7_clause_12 : decode cX7_clause 12 = .ok (.getfield 9, 3) := by decide +kernel
theorem dX7_clause_15 : decode cX7_clause 15 = .ok (.aload_n 0, 1) := by decide +kernel
theorem dX7_clause_16 : decode cX7_clause 16 = .ok (.getfield 22, 3) := by decide +kernel
theorem dX7_clause_19 : decode cX7_clause 19 = .ok (.baload, 1) := by decide +kernel
theorem dX7_clause_20 : decode cX7_clause 20 = .ok (.bipush 114, 2) := by decide +kernel
theorem dX7_clause_22 : decode cX7_clause 22 = .ok (.if_icmp .ne 8, 3) := by decide +kernel
theorem dX7_clause_25 : decode cX7_clause 25 = .ok (.aload_n 0, 1) := by decide +kernel
theorem dX7_clause_26 : decode cX7_clause 26 = .ok (.invokevirtual 42, 3) := by decide +kernel
theorem dX7_clause_29 : decode cX7_clause 29 = .ok (.ireturn, 1) := by decide +kernel
theorem dX7_clause_30 : decode cX7_clause 30 = .ok (.aload_n 0, 1) := by decide +kernel
theorem dX7_clause_31 : decode cX7_clause 31 = .ok (.getfield 22, 3) := by decide +kernel
theorem dX7_clause_34 : decode cX7_clause 34 = .ok (.aload_n 0, 1) := by decide +kernel
theorem dX7_clause_35 : decode cX7_clause 35 = .ok (.getfield 19, 3) := by decide +kernel
theorem dX7_clause_38 : decode cX7_clause 38 = .ok (.if_icmp .ge 21, 3) := by decide +kernel
theorem dX7_clause_41 : decode cX7_clause 41 = .ok (.aload_n 0, 1) := by decide +kernel
theorem dX7_clause_42 : decode cX7_clause 42 = .ok (.getfield 9, 3) := by decide +kernel
theorem dX7_clause_45 : decode cX7_clause 45 = .ok (.aload_n 0, 1) := by decide +kernel
theorem dX7_clause_46 : decode cX7_clause 46 = .ok (.getfield 22, 3) := by decide +kernel
theorem dX7_clause_49 : decode cX7_clause 49 = .ok (.baload, 1) := by decide +kernel
theorem dX7_clause_50 : decode cX7_clause 50 = .ok (.bipush 107, 2) := by decide +kernel
theorem dX7_clause_52 : decode cX7_clause 52 = .ok (.if_icmp .ne 7, 3) := by decide +kernel
theorem dX7_clause_55 : decode cX7_clause 55 = .ok (.iconst 1, 1) := by decide +kernel
theorem dX7_clause_56 : decode cX7_clause 56 = .ok (.goto 4, 3) := by decide +kernel
theorem dX7_clause_59 : decode cX7_clause 59 = .ok (.iconst 0, 1) := by decide +kernel
theorem dX7_clause_60 : decode cX7_clause 60 = .ok (.istore_n 1, 1) := by decide +kernel
theorem dX7_clause_61 : decode cX7_clause 61 = .ok (.aload_n 0, 1) := by decide +kernel
theorem dX7_clause_62 : decode cX7_clause 62 = .ok (.iload_n 1, 1) := by decide +kernel
theorem dX7_clause_63 : decode cX7_clause 63 = .ok (.ifCond .eq 8, 3) := by decide +kernel
theorem dX7_clause_66 : decode cX7_clause 66 = .ok (.ldc 45, 2) := by decide +kernel
theorem dX7_clause_68 : decode cX7_clause 68 = .ok (.goto 5, 3) := by decide +kernel
theorem dX7_clause_71 : decode cX7_clause 71 = .ok (.ldc 47, 2) := by decide +kernel
theorem dX7_clause_73 : decode cX7_clause 73 = .ok (.invokevirtual 49, 3) := by decide +kernel
theorem dX7_clause_76 : decode cX7_clause 76 = .ok (.ifCond .ne 5, 3) := by decide +kernel
theorem dX7_clause_79 : decode cX7_clause 79 = .ok (.iconst 0, 1) := by decide +kernel
theorem dX7_clause_80 : decode cX7_clause 80 = .ok (.ireturn, 1) := by decide +kernel
theorem dX7_clause_81 : decode cX7_clause 81 = .ok (.aload_n 0, 1) := by decide +kernel
theorem dX7_clause_82 : decode cX7_clause 82 = .ok (.invokevirtual 53, 3) := by decide +kernel
theorem dX7_clause_85 : decode cX7_clause 85 = .ok (.istore_n 2, 1) := by decide +kernel
theorem dX7_clause_86 : decode cX7_clause 86 = .ok (.iload_n 2, 1) := by decide +kernel
theorem dX7_clause_87 : decode cX7_clause 87 = .ok (.ifCond .lt 20, 3) := by decide +kernel
theorem dX7_clause_90 : decode cX7_clause 90 = .ok (.aload_n 0, 1) := by decide +kernel
theorem dX7_clause_91 : decode cX7_clause 91 = .ok (.bipush 32, 2) := by decide +kernel
theorem dX7_clause_93 : decode cX7_clause 93 = .ok (.invokevirtual 38, 3) := by decide +kernel
theorem dX7_clause_96 : decode cX7_clause 96 = .ok (.ifCond .eq 11, 3) := by decide +kernel
theorem dX7_clause_99 : decode cX7_clause 99 = .ok (.aload_n 0, 1) := by decide +kernel
theorem dX7_clause_100 : decode cX7_clause 100 = .ok (.iconst 0, 1) := by decide +kernel
theorem dX7_clause_101 : decode cX7_clause 101 = .ok (.invokevirtual 57, 3) := by decide +kernel
theorem dX7_clause_104 : decode cX7_clause 104 = .ok (.ifCond .ne 5, 3) := by decide +kernel
theorem dX7_clause_107 : decode cX7_clause 107 = .ok (.iconst 0, 1) := by decide +kernel
theorem dX7_clause_108 : decode cX7_clause 108 = .ok (.ireturn, 1) := by decide +kernel
theorem dX7_clause_109 : decode cX7_clause 109 = .ok (.aload_n 0, 1) := by decide +kernel
theorem dX7_clause_110 : decode cX7_clause 110 = .ok (.getfield 25, 3) := by decide +kernel
theorem dX7_clause_113 : decode cX7_clause 113 = .ok (.iload_n 1, 1) := by decide +kernel
theorem dX7_clause_114 : decode cX7_clause 114 = .ok (.ifCond .eq 9, 3) := by decide +kernel
theorem dX7_clause_117 : decode cX7_clause 117 = .ok (.sipush 2000, 3) := by decide +kernel
theorem dX7_clause_120 : decode cX7_clause 120 = .ok (.goto 6, 3) := by decide +kernel
theorem dX7_clause_123 : decode cX7_clause 123 = .ok (.sipush 1900, 3) := by decide +kernel
theorem dX7_clause_126 : decode cX7_clause 126 = .ok (.iload_n 2, 1) := by decide +kernel
theorem dX7_clause_127 : decode cX7_clause 127 = .ok (.iadd, 1) := by decide +kernel
theorem dX7_clause_128 : decode cX7_clause 128 = .ok (.invokevirtual 61, 3) := by decide +kernel
theorem dX7_clause_131 : decode cX7_clause 131 = .ok (.iconst 1, 1) := by decide +kernel
theorem dX7_clause_132 : decode cX7_clause 132 = .ok (.ireturn, 1) := by decide +kernel
set_option maxRecDepth 20000 in
theorem ggX7_rest_X7_takesAll : GoodIn wsX7_rest wsX7_takesAll := goodIn_r _ [7, 8, 9, 10, 11, 12, 13, 14, 15, 16, 17, 18, 19, 20, 21, 22, 23, 24, 25, 26, 27, 28, 29, 30, 31, 32, 33, 34, 35, 36, 37, 38, 39, 40, 41, 42, 43, 44, 45, 46, 47, 48, 49, 50, 51, 52, 53, 54, 55, 56, 57, 58, 59, 6, 60, 61, 62, 63, 68, 69, 70, 71, 72] (by decide +kernel) (by decide +kernel)
set_option maxRecDepth 20000 in
theorem gX7_rest_X7_takesAll : GoodIn wsX7_rest (wsV RX7 49 RX7 yX7_takesAll wsX7_takesAll) := goodIn_app (goodIn_of _ (by decide +kernel)) ggX7_rest_X7_takesAll
set_option maxRecDepth 20000 in
theorem ggX7_rest_X7_number : GoodIn wsX7_rest wsX7_number := goodIn_r _ [67, 61, 62, 63, 68, 69, 70, 71, 72] (by decide +kernel) (by decide +kernel)
set_option maxRecDepth 20000 in
theorem gX7_rest_X7_number : GoodIn wsX7_rest (wsV RX7 53 RX7 yX7_number wsX7_number) := goodIn_app (goodIn_of _ (by decide +kernel)) ggX7_rest_X7_number
theorem dX7_rest_0 : decode cX7_rest 0 = .ok (.aload_n 0, 1) := by decide +kernel
theorem dX7_rest_1 : decode cX7_rest 1 = .ok (.ldc 65, 2) := by decide +kernel
theorem dX7_rest_3 : decode cX7_rest 3 = .ok (.invokevirtual 49, 3) := by decide +kernel
theorem dX7_rest_6 : decode cX7_rest 6 = .ok (.ifCond .ne 5, 3) := by decide +kernel
theorem dX7_rest_9 : decode cX7_rest 9 = .ok (.iconst 0, 1) := by decide +kernel
theorem dX7_rest_10 : decode cX7_rest 10 = .ok (.ireturn, 1) := by decide +kernel
theorem dX7_rest_11 : decode cX7_rest 11 = .ok (.aload_n 0, 1) := by decide +kernel
theorem dX7_rest_12 : decode cX7_rest 12 = .ok (.invokevirtual 53, 3) := by decide +kernel
theorem dX7_rest_15 : decode cX7_rest 15 = .ok (.istore_n 1, 1) := by decide +kernel
theorem dX7_rest_16 : decode cX7_rest 16 = .ok (.iload_n 1, 1) := by decide +kernel
theorem dX7_rest_17 : decode cX7_rest 17 = .ok (.ifCond .ge 5, 3) := by decide +kernel
theorem dX7_rest_20 : decode cX7_rest 20 = .ok (.iconst 0, 1) := by decide +kernel
theorem dX7_rest_21 : decode cX7_rest 21 = .ok (.ireturn, 1) := by decide +kernel
theorem dX7_rest_22 : decode cX7_rest 22 = .ok (.aload_n 0, 1) := by decide +kernel
theorem dX7_rest_23 : decode cX7_rest 23 = .ok (.getfield 25, 3) := by decide +kernel
theorem dX7_rest_26 : decode cX7_rest 26 = .ok (.iload_n 1, 1) := by decide +kernel
theorem dX7_rest_27 : decode cX7_rest 27 = .ok (.putfield 67, 3) := by decide +kernel
theorem dX7_rest_30 : decode cX7_rest 30 = .ok (.iconst 1, 1) := by decide +kernel
theorem dX7_rest_31 : decode cX7_rest 31 = .ok (.ireturn, 1) := by decide +kernel
set_option maxRecDepth 20000 in
theorem ggX7_anyHolds_X7_allHold : GoodIn wsX7_anyHolds wsX7_allHold := goodIn_r _ [20, 1, 21, 22, 23, 5, 6, 7, 8, 9, 10, 11, 12, 13, 14, 15, 16, 17, 18, 19, 0, 2, 3, 4, 24, 25, 26, 27, 28, 29, 30, 31, 32, 33, 34, 35, 36, 37, 38, 39, 40, 41, 42, 43, 44, 45, 46, 47, 48, 49, 50, 51, 52, 53, 54, 55, 56, 57, 58, 59, 60, 61, 62, 63, 64, 65, 66, 67, 68, 69, 70, 71, 72, 73, 74, 75, 76, 77, 78, 79, 80, 81, 82, 83, 84, 85, 86, 87, 88, 89, 90, 91, 92, 93, 94, 95, 96, 97, 98, 99, 100, 101, 102, 103, 104, 105, 106, 107, 108, 109, 110, 111, 112, 113, 114, 115, 116, 117, 118, 119, 120, 121, 122, 123, 124, 125, 126, 127, 128, 129, 130, 131, 132, 133, 134, 135, 136] (by decide +kernel) (by decide +kernel)
set_option maxRecDepth 20000 in
theorem gX7_anyHolds_X7_allHold : GoodIn wsX7_anyHolds (wsV RX7 69 RX7 yX7_allHold wsX7_allHold) := goodIn_app (goodIn_of _ (by decide +kernel)) ggX7_anyHolds_X7_allHold
set_option maxRecDepth 20000 in
theorem ggX7_anyHolds_X7_takes : GoodIn wsX7_anyHolds wsX7_takes := goodIn_r _ [9, 10, 11, 12, 129, 130, 131, 132, 133] (by decide +kernel) (by decide +kernel)
set_option maxRecDepth 20000 in
theorem gX7_anyHolds_X7_takes : GoodIn wsX7_anyHolds (wsV RX7 38 RX7 yX7_takes wsX7_takes) := goodIn_app (goodIn_of _ (by decide +kernel)) ggX7_anyHolds_X7_takes
set_option maxRecDepth 20000 in
theorem ggX7_anyHolds_X2_adds : GoodIn wsX7_anyHolds wsX2_adds := goodIn_r _ [17, 18, 19, 134, 135, 136] (by decide +kernel) (by decide +kernel)
set_option maxRecDepth 20000 in
theorem gX7_anyHolds_X2_adds : GoodIn wsX7_anyHolds (wsV RX7 61 RX2 yX2_adds wsX2_adds) := goodIn_app (goodIn_of _ (by decide +kernel)) ggX7_anyHolds_X2_adds
theorem dX7_anyHolds_0 : decode cX7_anyHolds 0 = .ok (.aload_n 0, 1) := by decide +kernel
theorem dX7_anyHolds_1 : decode cX7_anyHolds 1 = .ok (.iload_n 1, 1) := by decide +kernel
theorem dX7_anyHolds_2 : decode cX7_anyHolds 2 = .ok (.invokevirtual 69, 3) := by decide +kernel
theorem dX7_anyHolds_5 : decode cX7_anyHolds 5 = .ok (.ifCond .ne 5, 3) := by decide +kernel
theorem dX7_anyHolds_8 : decode cX7_anyHolds 8 = .ok (.iconst 0, 1) := by decide +kernel
theorem dX7_anyHolds_9 : decode cX7_anyHolds 9 = .ok (.ireturn, 1) := by decide +kernel
theorem dX7_anyHolds_10 : decode cX7_anyHolds 10 = .ok (.iconst 0, 1) := by decide +kernel
theorem dX7_anyHolds_11 : decode cX7_anyHolds 11 = .ok (.istore_n 2, 1) := by decide +kernel
theorem dX7_anyHolds_12 : decode cX7_anyHolds 12 = .ok (.iload_n 2, 1) := by decide +kernel
theorem dX7_anyHolds_13 : decode cX7_anyHolds 13 = .ok (.bipush 100, 2) := by decide +kernel
theorem dX7_anyHolds_15 : decode cX7_anyHolds 15 = .ok (.if_icmp .ge 38, 3) := by decide +kernel
theorem dX7_anyHolds_18 : decode cX7_anyHolds 18 = .ok (.aload_n 0, 1) := by decide +kernel
theorem dX7_anyHolds_19 : decode cX7_anyHolds 19 = .ok (.bipush 124, 2) := by decide +kernel
theorem dX7_anyHolds_21 : decode cX7_anyHolds 21 = .ok (.invokevirtual 38, 3) := by decide +kernel
theorem dX7_anyHolds_24 : decode cX7_anyHolds 24 = .ok (.ifCond .eq 29, 3) := by decide +kernel
theorem dX7_anyHolds_27 : decode cX7_anyHolds 27 = .ok (.aload_n 0, 1) := by decide +kernel
theorem dX7_anyHolds_28 : decode cX7_anyHolds 28 = .ok (.iload_n 1, 1) := by decide +kernel
theorem dX7_anyHolds_29 : decode cX7_anyHolds 29 = .ok (.invokevirtual 69, 3) := by decide +kernel
theorem dX7_anyHolds_32 : decode cX7_anyHolds 32 = .ok (.ifCond .ne 5, 3) := by decide +kernel
theorem dX7_anyHolds_35 : decode cX7_anyHolds 35 = .ok (.iconst 0, 1) := by decide +kernel
theorem dX7_anyHolds_36 : decode cX7_anyHolds 36 = .ok (.ireturn, 1) := by decide +kernel
theorem dX7_anyHolds_37 : decode cX7_anyHolds 37 = .ok (.aload_n 0, 1) := by decide +kernel
theorem dX7_anyHolds_38 : decode cX7_anyHolds 38 = .ok (.getfield 25, 3) := by decide +kernel
theorem dX7_anyHolds_41 : decode cX7_anyHolds 41 = .ok (.sipush 1802, 3) := by decide +kernel
theorem dX7_anyHolds_44 : decode cX7_anyHolds 44 = .ok (.invokevirtual 61, 3) := by decide +kernel
theorem dX7_anyHolds_47 : decode cX7_anyHolds 47 = .ok (.iinc 2 1, 3) := by decide +kernel
theorem dX7_anyHolds_50 : decode cX7_anyHolds 50 = .ok (.goto (-38), 3) := by decide +kernel
theorem dX7_anyHolds_53 : decode cX7_anyHolds 53 = .ok (.iconst 1, 1) := by decide +kernel
theorem dX7_anyHolds_54 : decode cX7_anyHolds 54 = .ok (.ireturn, 1) := by decide +kernel
set_option maxRecDepth 20000 in
theorem ggX7_allHold_X7_oneHolds : GoodIn wsX7_allHold wsX7_oneHolds := goodIn_r _ [24, 1, 6, 7, 8, 5, 9, 10, 11, 12, 2, 3, 4, 13, 14, 15, 16, 17, 18, 19, 25, 26, 27, 28, 29, 30, 31, 32, 33, 34, 35, 36, 37, 38, 39, 40, 41, 42, 43, 44, 45, 46, 47, 48, 49, 50, 51, 52, 53, 54, 55, 56, 57, 58, 59, 60, 61, 62, 63, 64, 65, 66, 67, 68, 69, 70, 71, 72, 73, 74, 75, 76, 77, 78, 79, 80, 81, 82, 83, 84, 85, 86, 87, 88, 89, 90, 91, 92, 93, 94, 95, 96, 97, 98, 99, 100, 101, 102, 103, 104, 105, 106, 107, 108, 109, 110, 111, 112, 113, 114, 115, 116, 117, 118, 119, 120, 121, 122, 123, 124, 125, 126, 127, 128, 0, 20, 21, 22, 23, 129, 130, 131, 132, 133, 134, 135, 136] (by decide +kernel) (by decide +kernel)
set_option maxRecDepth 20000 in
theorem gX7_allHold_X7_oneHolds : GoodIn wsX7_allHold (wsV RX7 72 RX7 yX7_oneHolds wsX7_oneHolds) := goodIn_app (goodIn_of _ (by decide +kernel)) ggX7_allHold_X7_oneHolds
set_option maxRecDepth 20000 in
theorem ggX7_allHold_X7_takes : GoodIn wsX7_allHold wsX7_takes := goodIn_r _ [9, 10, 11, 12, 129, 130, 131, 132, 133] (by decide +kernel) (by decide +kernel)
set_option maxRecDepth 20000 in
theorem gX7_allHold_X7_takes : GoodIn wsX7_allHold (wsV RX7 38 RX7 yX7_takes wsX7_takes) := goodIn_app (goodIn_of _ (by decide +kernel)) ggX7_allHold_X7_takes
set_option maxRecDepth 20000 in
theorem ggX7_allHold_X2_adds : GoodIn wsX7_allHold wsX2_adds := goodIn_r _ [17, 18, 19, 134, 135, 136] (by decide +kernel) (by decide +kernel)
set_option maxRecDepth 20000 in
theorem gX7_allHold_X2_adds : GoodIn wsX7_allHold (wsV RX7 61 RX2 yX2_adds wsX2_adds) := goodIn_app (goodIn_of _ (by decide +kernel)) ggX7_allHold_X2_adds
theorem dX7_allHold_0 : decode cX7_allHold 0 = .ok (.aload_n 0, 1) := by decide +kernel
theorem dX7_allHold_1 : decode cX7_allHold 1 = .ok (.iload_n 1, 1) := by decide +kernel
theorem dX7_allHold_2 : decode cX7_allHold 2 = .ok (.invokevirtual 72, 3) := by decide +kernel
theorem dX7_allHold_5 : decode cX7_allHold 5 = .ok (.ifCond .ne 5, 3) := by decide +kernel
theorem dX7_allHold_8 : decode cX7_allHold 8 = .ok (.iconst 0, 1) := by decide +kernel
theorem dX7_allHold_9 : decode cX7_allHold 9 = .ok (.ireturn, 1) := by decide +kernel
theorem dX7_allHold_10 : decode cX7_allHold 10 = .ok (.iconst 0, 1) := by decide +kernel
theorem dX7_allHold_11 : decode cX7_allHold 11 = .ok (.istore_n 2, 1) := by decide +kernel
theorem dX7_allHold_12 : decode cX7_allHold 12 = .ok (.iload_n 2, 1) := by decide +kernel
theorem dX7_allHold_13 : decode cX7_allHold 13 = .ok (.bipush 100, 2) := by decide +kernel
theorem dX7_allHold_15 : decode cX7_allHold 15 = .ok (.if_icmp .ge 38, 3) := by decide +kernel
theorem dX7_allHold_18 : decode cX7_allHold 18 = .ok (.aload_n 0, 1) := by decide +kernel
theorem dX7_allHold_19 : decode cX7_allHold 19 = .ok (.bipush 38, 2) := by decide +kernel
theorem dX7_allHold_21 : decode cX7_allHold 21 = .ok (.invokevirtual 38, 3) := by decide +kernel
theorem dX7_allHold_24 : decode cX7_allHold 24 = .ok (.ifCond .eq 29, 3) := by decide +kernel
theorem dX7_allHold_27 : decode cX7_allHold 27 = .ok (.aload_n 0, 1) := by decide +kernel
theorem dX7_allHold_28 : decode cX7_allHold 28 = .ok (.iload_n 1, 1) := by decide +kernel
theorem dX7_allHold_29 : decode cX7_allHold 29 = .ok (.invokevirtual 72, 3) := by decide +kernel
theorem dX7_allHold_32 : decode cX7_allHold 32 = .ok (.ifCond .ne 5, 3) := by decide +kernel
theorem dX7_allHold_35 : decode cX7_allHold 35 = .ok (.iconst 0, 1) := by decide +kernel
theorem dX7_allHold_36 : decode cX7_allHold 36 = .ok (.ireturn, 1) := by decide +kernel
theorem dX7_allHold_37 : decode cX7_allHold 37 = .ok (.aload_n 0, 1) := by decide +kernel
theorem dX7_allHold_38 : decode cX7_allHold 38 = .ok (.getfield 25, 3) := by decide +kernel
theorem dX7_allHold_41 : decode cX7_allHold 41 = .ok (.sipush 1801, 3) := by decide +kernel
theorem dX7_allHold_44 : decode cX7_allHold 44 = .ok (.invokevirtual 61, 3) := by decide +kernel
theorem dX7_allHold_47 : decode cX7_allHold 47 = .ok (.iinc 2 1, 3) := by decide +kernel
theorem dX7_allHold_50 : decode cX7_allHold 50 = .ok (.goto (-38), 3) := by decide +kernel
theorem dX7_allHold_53 : decode cX7_allHold 53 = .ok (.iconst 1, 1) := by decide +kernel
theorem dX7_allHold_54 : decode cX7_allHold 54 = .ok (.ireturn, 1) := by decide +kernel
set_option maxRecDepth 20000 in
theorem ggX7_oneHolds_X7_takes : GoodIn wsX7_oneHolds wsX7_takes := goodIn_r _ [6, 7, 8, 9, 129, 130, 131, 132, 133] (by decide +kernel) (by decide +kernel)
set_option maxRecDepth 20000 in
theorem gX7_oneHolds_X7_takes : GoodIn wsX7_oneHolds (wsV RX7 38 RX7 yX7_takes wsX7_takes) := goodIn_app (goodIn_of _ (by decide +kernel)) ggX7_oneHolds_X7_takes
set_option maxRecDepth 20000 in
theorem ggX7_oneHolds_X7_oneHolds : GoodIn wsX7_oneHolds wsX7_oneHolds := goodIn_r _ [0, 1, 2, 3, 4, 5, 6, 7, 8, 9, 10, 11, 12, 13, 14, 15, 16, 17, 18, 19, 20, 21, 22, 23, 24, 25, 26, 27, 28, 29, 30, 31, 32, 33, 34, 35, 36, 37, 38, 39, 40, 41, 42, 43, 44, 45, 46, 47, 48, 49, 50, 51, 52, 53, 54, 55, 56, 57, 58, 59, 60, 61, 62, 63, 64, 65, 66, 67, 68, 69, 70, 71, 72, 73, 74, 75, 76, 77, 78, 79, 80, 81, 82, 83, 84, 85, 86, 87, 88, 89, 90, 91, 92, 93, 94, 95, 96, 97, 98, 99, 100, 101, 102, 103, 104, 105, 106, 107, 108, 109, 110, 111, 112, 113, 114, 115, 116, 117, 118, 119, 120, 121, 122, 123, 124, 125, 126, 127, 128, 129, 130, 131, 132, 133, 134, 135, 136] (by decide +kernel) (by decide +kernel)
set_option maxRecDepth 20000 in
theorem gX7_oneHolds_X7_oneHolds : GoodIn wsX7_oneHolds (wsV RX7 72 RX7 yX7_oneHolds wsX7_oneHolds) := goodIn_app (goodIn_of _ (by decide +kernel)) ggX7_oneHolds_X7_oneHolds
set_option maxRecDepth 20000 in
theorem ggX7_oneHolds_X2_adds : GoodIn wsX7_oneHolds wsX2_adds := goodIn_r _ [17, 18, 19, 134, 135, 136] (by decide +kernel) (by decide +kernel)
set_option maxRecDepth 20000 in
theorem gX7_oneHolds_X2_adds : GoodIn wsX7_oneHolds (wsV RX7 61 RX2 yX2_adds wsX2_adds) := goodIn_app (goodIn_of _ (by decide +kernel)) ggX7_oneHolds_X2_adds
set_option maxRecDepth 20000 in
theorem ggX7_oneHolds_X7_anyHolds : GoodIn wsX7_oneHolds wsX7_anyHolds := goodIn_r _ [125, 1, 126, 127, 128, 5, 2, 3, 4, 6, 7, 8, 9, 13, 14, 15, 16, 17, 18, 19, 124, 10, 11, 12, 0, 20, 21, 22, 23, 24, 25, 26, 27, 28, 29, 30, 31, 32, 33, 34, 35, 36, 37, 38, 39, 40, 41, 42, 43, 44, 45, 46, 47, 48, 49, 50, 51, 52, 53, 54, 55, 56, 57, 58, 59, 60, 61, 62, 63, 64, 65, 66, 67, 68, 69, 70, 71, 72, 73, 74, 75, 76, 77, 78, 79, 80, 81, 82, 83, 84, 85, 86, 87, 88, 89, 90, 91, 92, 93, 94, 95, 96, 97, 98, 99, 100, 101, 102, 103, 104, 105, 106, 107, 108, 109, 110, 111, 112, 113, 114, 115, 116, 117, 118, 119, 120, 121, 122, 123, 129, 130, 131, 132, 133, 134, 135, 136] (by decide +kernel) (by decide +kernel)
set_option maxRecDepth 20000 in
theorem gX7_oneHolds_X7_anyHolds : GoodIn wsX7_oneHolds (wsV RX7 57 RX7 yX7_anyHolds wsX7_anyHolds) := goodIn_app (goodIn_of _ (by decide +kernel)) ggX7_oneHolds_X7_anyHolds
set_option maxRecDepth 20000 in
theorem ggX7_oneHolds_X7_test : GoodIn wsX7_oneHolds wsX7_test := goodIn_r _ [26, 1, 27, 28, 29, 5, 30, 7, 8, 9, 31, 32, 33, 34, 35, 36, 37, 38, 39, 40, 41, 42, 43, 44, 45, 46, 47, 48, 49, 50, 51, 52, 53, 54, 55, 56, 57, 58, 59, 60, 61, 62, 63, 64, 65, 66, 67, 68, 69, 70, 71, 72, 73, 74, 75, 76, 77, 78, 79, 80, 81, 82, 83, 84, 85, 86, 87, 88, 89, 90, 91, 92, 93, 94, 95, 96, 97, 98, 99, 100, 101, 102, 103, 104, 105, 106, 107, 108, 109, 110, 111, 112, 113, 114, 115, 116, 117, 118, 119, 120, 121, 122, 123, 13, 14, 15, 16, 17, 18, 19, 129, 130, 131, 132, 133, 134, 135, 136] (by decide +kernel) (by decide +kernel)
set_option maxRecDepth 20000 in
theorem gX7_oneHolds_X7_test : GoodIn wsX7_oneHolds (wsV RX7 75 RX7 yX7_test wsX7_test) := goodIn_app (goodIn_of _ (by decide +kernel)) ggX7_oneHolds_X7_test
theorem dX7_oneHolds_0 : decode cX7_oneHolds 0 = .ok (.iload_n 1, 1) := by decide +kernel
theorem dX7_oneHolds_1 : decode cX7_oneHolds 1 = .ok (.iconst 4, 1) := by decide +kernel
theorem dX7_oneHolds_2 : decode cX7_oneHolds 2 = .ok (.if_icmp .ge 32, 3) := by decide +kernel
theorem dX7_oneHolds_5 : decode cX7_oneHolds 5 = .ok (.aload_n 0, 1) := by decide +kernel
theorem dX7_oneHolds_6 : decode cX7_oneHolds 6 = .ok (.bipush 33, 2) := by decide +kernel
theorem dX7_oneHolds_8 : decode cX7_oneHolds 8 = .ok (.invokevirtual 38, 3) := by decide +kernel
theorem dX7_oneHolds_11 : decode cX7_oneHolds 11 = .ok (.ifCond .eq 23, 3) := by decide +kernel
theorem dX7_oneHolds_14 : decode cX7_oneHolds 14 = .ok (.aload_n 0, 1) := by decide +kernel
theorem dX7_oneHolds_15 : decode cX7_oneHolds 15 = .ok (.iload_n 1, 1) := by decide +kernel
theorem dX7_oneHolds_16 : decode cX7_oneHolds 16 = .ok (.iconst 1, 1) := by decide +kernel
theorem dX7_oneHolds_17 : decode cX7_oneHolds 17 = .ok (.iadd, 1) := by decide +kernel
theorem dX7_oneHolds_18 : decode cX7_oneHolds 18 = .ok (.invokevirtual 72, 3) := by decide +kernel
theorem dX7_oneHolds_21 : decode cX7_oneHolds 21 = .ok (.istore_n 2, 1) := by decide +kernel
theorem dX7_oneHolds_22 : decode cX7_oneHolds 22 = .ok (.aload_n 0, 1) := by decide +kernel
theorem dX7_oneHolds_23 : decode cX7_oneHolds 23 = .ok (.getfield 25, 3) := by decide +kernel
theorem dX7_oneHolds_26 : decode cX7_oneHolds 26 = .ok (.sipush 1800, 3) := by decide +kernel
theorem dX7_oneHolds_29 : decode cX7_oneHolds 29 = .ok (.invokevirtual 61, 3) := by decide +kernel
theorem dX7_oneHolds_32 : decode cX7_oneHolds 32 = .ok (.iload_n 2, 1) := by decide +kernel
theorem dX7_oneHolds_33 : decode cX7_oneHolds 33 = .ok (.ireturn, 1) := by decide +kernel
theorem dX7_oneHolds_34 : decode cX7_oneHolds 34 = .ok (.iload_n 1, 1) := by decide +kernel
theorem dX7_oneHolds_35 : decode cX7_oneHolds 35 = .ok (.iconst 4, 1) := by decide +kernel
theorem dX7_oneHolds_36 : decode cX7_oneHolds 36 = .ok (.if_icmp .ge 37, 3) := by decide +kernel
theorem dX7_oneHolds_39 : decode cX7_oneHolds 39 = .ok (.aload_n 0, 1) := by decide +kernel
theorem dX7_oneHolds_40 : decode cX7_oneHolds 40 = .ok (.bipush 40, 2) := by decide +kernel
theorem dX7_oneHolds_42 : decode cX7_oneHolds 42 = .ok (.invokevirtual 38, 3) := by decide +kernel
theorem dX7_oneHolds_45 : decode cX7_oneHolds 45 = .ok (.ifCond .eq 28, 3) := by decide +kernel
theorem dX7_oneHolds_48 : decode cX7_oneHolds 48 = .ok (.aload_n 0, 1) := by decide +kernel
theorem dX7_oneHolds_49 : decode cX7_oneHolds 49 = .ok (.iload_n 1, 1) := by decide +kernel
theorem dX7_oneHolds_50 : decode cX7_oneHolds 50 = .ok (.iconst 1, 1) := by decide +kernel
theorem dX7_oneHolds_51 : decode cX7_oneHolds 51 = .ok (.iadd, 1) := by decide +kernel
theorem dX7_oneHolds_52 : decode cX7_oneHolds 52 = .ok (.invokevirtual 57, 3) := by decide +kernel
theorem dX7_oneHolds_55 : decode cX7_oneHolds 55 = .ok (.ifCond .eq 16, 3) := by decide +kernel
theorem dX7_oneHolds_58 : decode cX7_oneHolds 58 = .ok (.aload_n 0, 1) := by decide +kernel
theorem dX7_oneHolds_59 : decode cX7_oneHolds 59 = .ok (.bipush 41, 2) := by decide +kernel
theorem dX7_oneHolds_61 : decode cX7_oneHolds 61 = .ok (.invokevirtual 38, 3) := by decide +kernel
theorem dX7_oneHolds_64 : decode cX7_oneHolds 64 = .ok (.ifCond .eq 7, 3) := by decide +kernel
theorem dX7_oneHolds_67 : decode cX7_oneHolds 67 = .ok (.iconst 1, 1) := by decide +kernel
theorem dX7_oneHolds_68 : decode cX7_oneHolds 68 = .ok (.goto 4, 3) := by decide +kernel
theorem dX7_oneHolds_71 : decode cX7_oneHolds 71 = .ok (.iconst 0, 1) := by decide +kernel
theorem dX7_oneHolds_72 : decode cX7_oneHolds 72 = .ok (.ireturn, 1) := by decide +kernel
theorem dX7_oneHolds_73 : decode cX7_oneHolds 73 = .ok (.aload_n 0, 1) := by decide +kernel
theorem dX7_oneHolds_74 : decode cX7_oneHolds 74 = .ok (.invokevirtual 75, 3) := by decide +kernel
theorem dX7_oneHolds_77 : decode cX7_oneHolds 77 = .ok (.ireturn, 1) := by decide +kernel
set_option maxRecDepth 20000 in
theorem ggX7_test_X7_takesOne : GoodIn wsX7_test wsX7_takesOne := goodIn_r _ [6, 7, 8, 9, 10, 11, 12, 13, 14, 15, 16, 17, 18, 19, 20, 21, 22, 23, 24, 25, 26, 27, 28, 29, 30, 31, 32, 33, 34, 35, 36, 37, 38, 39, 40, 41, 42, 43, 44, 45, 46, 47, 48, 49, 50, 51, 52, 53, 54, 55, 56, 57, 58, 59, 60, 61, 62, 63, 64, 65, 66, 67, 68, 69, 70, 71, 72, 73, 74, 75, 76, 77, 78, 79, 80, 81, 82, 83, 84, 85, 86, 87, 88, 89, 90, 91, 92, 93, 94, 95, 96, 97, 98, 110, 111, 112, 113, 114] (by decide +kernel) (by decide +kernel)
set_option maxRecDepth 20000 in
theorem gX7_test_X7_takesOne : GoodIn wsX7_test (wsV RX7 80 RX7 yX7_takesOne wsX7_takesOne) := goodIn_app (goodIn_of _ (by decide +kernel)) ggX7_test_X7_takesOne
set_option maxRecDepth 20000 in
theorem ggX7_test_X7_number : GoodIn wsX7_test wsX7_number := goodIn_r _ [102, 7, 8, 9, 110, 111, 112, 113, 114] (by decide +kernel) (by decide +kernel)
set_option maxRecDepth 20000 in
theorem gX7_test_X7_number : GoodIn wsX7_test (wsV RX7 53 RX7 yX7_number wsX7_number) := goodIn_app (goodIn_of _ (by decide +kernel)) ggX7_test_X7_number
set_option maxRecDepth 20000 in
theorem ggX7_test_X2_adds : GoodIn wsX7_test wsX2_adds := goodIn_r _ [107, 108, 109, 115, 116, 117] (by decide +kernel) (by decide +kernel)
set_option maxRecDepth 20000 in
theorem gX7_test_X2_adds : GoodIn wsX7_test (wsV RX7 61 RX2 yX2_adds wsX2_adds) := goodIn_app (goodIn_of _ (by decide +kernel)) ggX7_test_X2_adds
theorem dX7_test_0 : decode cX7_test 0 = .ok (.aload_n 0, 1) := by decide +kernel
theorem dX7_test_1 : decode cX7_test 1 = .ok (.ldc 78, 2) := by decide +kernel
theorem dX7_test_3 : decode cX7_test 3 = .ok (.invokevirtual 80, 3) := by decide +kernel
theorem dX7_test_6 : decode cX7_test 6 = .ok (.istore_n 1, 1) := by decide +kernel
theorem dX7_test_7 : decode cX7_test 7 = .ok (.iload_n 1, 1) := by decide +kernel
theorem dX7_test_8 : decode cX7_test 8 = .ok (.ifCond .ge 5, 3) := by decide +kernel
theorem dX7_test_11 : decode cX7_test 11 = .ok (.iconst 0, 1) := by decide +kernel
theorem dX7_test_12 : decode cX7_test 12 = .ok (.ireturn, 1) := by decide +kernel
theorem dX7_test_13 : decode cX7_test 13 = .ok (.aload_n 0, 1) := by decide +kernel
theorem dX7_test_14 : decode cX7_test 14 = .ok (.ldc 84, 2) := by decide +kernel
theorem dX7_test_16 : decode cX7_test 16 = .ok (.invokevirtual 80, 3) := by decide +kernel
theorem dX7_test_19 : decode cX7_test 19 = .ok (.istore_n 2, 1) := by decide +kernel
theorem dX7_test_20 : decode cX7_test 20 = .ok (.iload_n 2, 1) := by decide +kernel
theorem dX7_test_21 : decode cX7_test 21 = .ok (.ifCond .ge 5, 3) := by decide +kernel
theorem dX7_test_24 : decode cX7_test 24 = .ok (.iconst 0, 1) := by decide +kernel
theorem dX7_test_25 : decode cX7_test 25 = .ok (.ireturn, 1) := by decide +kernel
theorem dX7_test_26 : decode cX7_test 26 = .ok (.aload_n 0, 1) := by decide +kernel
theorem dX7_test_27 : decode cX7_test 27 = .ok (.invokevirtual 53, 3) := by decide +kernel
theorem dX7_test_30 : decode cX7_test 30 = .ok (.istore_n 3, 1) := by decide +kernel
theorem dX7_test_31 : decode cX7_test 31 = .ok (.iload_n 3, 1) := by decide +kernel
theorem dX7_test_32 : decode cX7_test 32 = .ok (.ifCond .ge 5, 3) := by decide +kernel
theorem dX7_test_35 : decode cX7_test 35 = .ok (.iconst 0, 1) := by decide +kernel
theorem dX7_test_36 : decode cX7_test 36 = .ok (.ireturn, 1) := by decide +kernel
theorem dX7_test_37 : decode cX7_test 37 = .ok (.aload_n 0, 1) := by decide +kernel
theorem dX7_test_38 : decode cX7_test 38 = .ok (.getfield 25, 3) := by decide +kernel
theorem dX7_test_41 : decode cX7_test 41 = .ok (.iload_n 1, 1) := by decide +kernel
theorem dX7_test_42 : decode cX7_test 42 = .ok (.sipush 300, 3) := by decide +kernel
theorem dX7_test_45 : decode cX7_test 45 = .ok (.imul, 1) := by decide +kernel
theorem dX7_test_46 : decode cX7_test 46 = .ok (.iload_n 2, 1) := by decide +kernel
theorem dX7_test_47 : decode cX7_test 47 = .ok (.bipush 100, 2) := by decide +kernel
theorem dX7_test_49 : decode cX7_test 49 = .ok (.imul, 1) := by decide +kernel
theorem dX7_test_50 : decode cX7_test 50 = .ok (.iadd, 1) := by decide +kernel
theorem dX7_test_51 : decode cX7_test 51 = .ok (.iload_n 3, 1) := by decide +kernel
theorem dX7_test_52 : decode cX7_test 52 = .ok (.iadd, 1) := by decide +kernel
theorem dX7_test_53 : decode cX7_test 53 = .ok (.invokevirtual 61, 3) := by decide +kernel
theorem dX7_test_56 : decode cX7_test 56 = .ok (.iconst 1, 1) := by decide +kernel
theorem dX7_test_57 : decode cX7_test 57 = .ok (.ireturn, 1) := by decide +kernel
theorem dX7_number_0 : decode cX7_number 0 = .ok (.iconst (-1), 1) := by decide +kernel
theorem dX7_number_1 : decode cX7_number 1 = .ok (.istore_n 1, 1) := by decide +kernel
theorem dX7_number_2 : decode cX7_number 2 = .ok (.iconst 0, 1) := by decide +kernel
theorem dX7_number_3 : decode cX7_number 3 = .ok (.istore_n 2, 1) := by decide +kernel
theorem dX7_number_4 : decode cX7_number 4 = .ok (.iload_n 2, 1) := by decide +kernel
theorem dX7_number_5 : decode cX7_number 5 = .ok (.iconst 2, 1) := by decide +kernel
theorem dX7_number_6 : decode cX7_number 6 = .ok (.if_icmp .ge 70, 3) := by decide +kernel
theorem dX7_number_9 : decode cX7_number 9 = .ok (.aload_n 0, 1) := by decide +kernel
theorem dX7_number_10 : decode cX7_number 10 = .ok (.getfield 22, 3) := by decide +kernel
theorem dX7_number_13 : decode cX7_number 13 = .ok (.aload_n 0, 1) := by decide +kernel
theorem dX7_number_14 : decode cX7_number 14 = .ok (.getfield 19, 3) := by decide +kernel
theorem dX7_number_17 : decode cX7_number 17 = .ok (.if_icmp .ge 59, 3) := by decide +kernel
theorem dX7_number_20 : decode cX7_number 20 = .ok (.aload_n 0, 1) := by decide +kernel
theorem dX7_number_21 : decode cX7_number 21 = .ok (.getfield 9, 3) := by decide +kernel
theorem dX7_number_24 : decode cX7_number 24 = .ok (.aload_n 0, 1) := by decide +kernel
theorem dX7_number_25 : decode cX7_number 25 = .ok (.getfield 22, 3) := by decide +kernel
theorem dX7_number_28 : decode cX7_number 28 = .ok (.baload, 1) := by decide +kernel
theorem dX7_number_29 : decode cX7_number 29 = .ok (.bipush 48, 2) := by decide +kernel
theorem dX7_number_31 : decode cX7_number 31 = .ok (.isub, 1) := by decide +kernel
theorem dX7_number_32 : decode cX7_number 32 = .ok (.istore_n 3, 1) := by decide +kernel
theorem dX7_number_33 : decode cX7_number 33 = .ok (.iload_n 3, 1) := by decide +kernel
theorem dX7_number_34 : decode cX7_number 34 = .ok (.ifCond .lt 9, 3) := by decide +kernel
theorem dX7_number_37 : decode cX7_number 37 = .ok (.iload_n 3, 1) := by decide +kernel
theorem dX7_number_38 : decode cX7_number 38 = .ok (.bipush 9, 2) := by decide +kernel
theorem dX7_number_40 : decode cX7_number 40 = .ok (.if_icmp .le 5, 3) := by decide +kernel
theorem dX7_number_43 : decode cX7_number 43 = .ok (.iload_n 1, 1) := by decide +kernel
theorem dX7_number_44 : decode cX7_number 44 = .ok (.ireturn, 1) := by decide +kernel
theorem dX7_number_45 : decode cX7_number 45 = .ok (.iload_n 2, 1) := by decide +kernel
theorem dX7_number_46 : decode cX7_number 46 = .ok (.ifCond .ne 7, 3) := by decide +kernel
theorem dX7_number_49 : decode cX7_number 49 = .ok (.iload_n 3, 1) := by decide +kernel
theorem dX7_number_50 : decode cX7_number 50 = .ok (.goto 9, 3) := by decide +kernel
theorem dX7_number_53 : decode cX7_number 53 = .ok (.iload_n 1, 1) := by decide +kernel
theorem dX7_number_54 : decode cX7_number 54 = .ok (.bipush 10, 2) := by decide +kernel
theorem dX7_number_56 : decode cX7_number 56 = .ok (.imul, 1) := by decide +kernel
theorem dX7_number_57 : decode cX7_number 57 = .ok (.iload_n 3, 1) := by decide +kernel
theorem dX7_number_58 : decode cX7_number 58 = .ok (.iadd, 1) := by decide +kernel
theorem dX7_number_59 : decode cX7_number 59 = .ok (.istore_n 1, 1) := by decide +kernel
theorem dX7_number_60 : decode cX7_number 60 = .ok (.aload_n 0, 1) := by decide +kernel
theorem dX7_number_61 : decode cX7_number 61 = .ok (.dup, 1) := by decide +kernel
theorem dX7_number_62 : decode cX7_number 62 = .ok (.getfield 22, 3) := by decide +kernel
theorem dX7_number_65 : decode cX7_number 65 = .ok (.iconst 1, 1) := by decide +kernel
theorem dX7_number_66 : decode cX7_number 66 = .ok (.iadd, 1) := by decide +kernel
theorem dX7_number_67 : decode cX7_number 67 = .ok (.putfield 22, 3) := by decide +kernel
theorem dX7_number_70 : decode cX7_number 70 = .ok (.iinc 2 1, 3) := by decide +kernel
theorem dX7_number_73 : decode cX7_number 73 = .ok (.goto (-69), 3) := by decide +kernel
theorem dX7_number_76 : decode cX7_number 76 = .ok (.iload_n 1, 1) := by decide +kernel
theorem dX7_number_77 : decode cX7_number 77 = .ok (.ireturn, 1) := by decide +kernel
theorem dX7_takes_0 : decode cX7_takes 0 = .ok (.aload_n 0, 1) := by decide +kernel
theorem dX7_takes_1 : decode cX7_takes 1 = .ok (.getfield 22, 3) := by decide +kernel
theorem dX7_takes_4 : decode cX7_takes 4 = .ok (.aload_n 0, 1) := by decide +kernel
theorem dX7_takes_5 : decode cX7_takes 5 = .ok (.getfield 19, 3) := by decide +kernel
theorem dX7_takes_8 : decode cX7_takes 8 = .ok (.if_icmp .ge 16, 3) := by decide +kernel
theorem dX7_takes_11 : decode cX7_takes 11 = .ok (.aload_n 0, 1) := by decide +kernel
theorem dX7_takes_12 : decode cX7_takes 12 = .ok (.getfield 9, 3) := by decide +kernel
theorem dX7_takes_15 : decode cX7_takes 15 = .ok (.aload_n 0, 1) := by decide +kernel
theorem dX7_takes_16 : decode cX7_takes 16 = .ok (.getfield 22, 3) := by decide +kernel
theorem dX7_takes_19 : decode cX7_takes 19 = .ok (.baload, 1) := by decide +kernel
theorem dX7_takes_20 : decode cX7_takes 20 = .ok (.iload_n 1, 1) := by decide +kernel
theorem dX7_takes_21 : decode cX7_takes 21 = .ok (.if_icmp .eq 5, 3) := by decide +kernel
theorem dX7_takes_24 : decode cX7_takes 24 = .ok (.iconst 0, 1) := by decide +kernel
theorem dX7_takes_25 : decode cX7_takes 25 = .ok (.ireturn, 1) := by decide +kernel
theorem dX7_takes_26 : decode cX7_takes 26 = .ok (.aload_n 0, 1) := by decide +kernel
theorem dX7_takes_27 : decode cX7_takes 27 = .ok (.dup, 1) := by decide +kernel
theorem dX7_takes_28 : decode cX7_takes 28 = .ok (.getfield 22, 3) := by decide +kernel
theorem dX7_takes_31 : decode cX7_takes 31 = .ok (.iconst 1, 1) := by decide +kernel
theorem dX7_takes_32 : decode cX7_takes 32 = .ok (.iadd, 1) := by decide +kernel
theorem dX7_takes_33 : decode cX7_takes 33 = .ok (.putfield 22, 3) := by decide +kernel
theorem dX7_takes_36 : decode cX7_takes 36 = .ok (.iconst 1, 1) := by decide +kernel
theorem dX7_takes_37 : decode cX7_takes 37 = .ok (.ireturn, 1) := by decide +kernel
set_option maxRecDepth 20000 in
theorem ggX7_takesAll_J0_length_8abf5 : GoodIn wsX7_takesAll wsJ0_length_8abf5 := goodIn_r _ [5, 6, 7, 8, 9, 4, 10, 11, 12] (by decide +kernel) (by decide +kernel)
set_option maxRecDepth 20000 in
theorem gX7_takesAll_J0_length_8abf5 : GoodIn wsX7_takesAll (wsV RX7 86 RJ0 yJ0_length_8abf5 wsJ0_length_8abf5) := goodIn_app (goodIn_of _ (by decide +kernel)) ggX7_takesAll_J0_length_8abf5
set_option maxRecDepth 20000 in
theorem ggX7_takesAll_J0_charAt_5068e : GoodIn wsX7_takesAll wsJ0_charAt_5068e := goodIn_r _ [16, 6, 17, 18, 19, 4, 20, 11, 12, 21, 22, 23, 24, 25, 26, 27, 28, 29, 30, 31, 32, 33, 34, 35, 36, 37, 38, 39, 40, 41, 42, 43, 44, 45, 46, 47, 48, 49] (by decide +kernel) (by decide +kernel)
set_option maxRecDepth 20000 in
theorem gX7_takesAll_J0_charAt_5068e : GoodIn wsX7_takesAll (wsV RX7 90 RJ0 yJ0_charAt_5068e wsJ0_charAt_5068e) := goodIn_app (goodIn_of _ (by decide +kernel)) ggX7_takesAll_J0_charAt_5068e
set_option maxRecDepth 20000 in
theorem ggX7_takesAll_X7_takes : GoodIn wsX7_takesAll wsX7_takes := goodIn_r _ [54, 55, 56, 57, 58, 59, 60, 61, 62] (by decide +kernel) (by decide +kernel)
set_option maxRecDepth 20000 in
theorem gX7_takesAll_X7_takes : GoodIn wsX7_takesAll (wsV RX7 38 RX7 yX7_takes wsX7_takes) := goodIn_app (goodIn_of _ (by decide +kernel)) ggX7_takesAll_X7_takes
theorem dX7_takesAll_0 : decode cX7_takesAll 0 = .ok (.iconst 0, 1) := by decide +kernel
theorem dX7_takesAll_1 : decode cX7_takesAll 1 = .ok (.istore_n 2, 1) := by decide +kernel
theorem dX7_takesAll_2 : decode cX7_takesAll 2 = .ok (.iload_n 2, 1) := by decide +kernel
theorem dX7_takesAll_3 : decode cX7_takesAll 3 = .ok (.aload_n 1, 1) := by decide +kernel
theorem dX7_takesAll_4 : decode cX7_takesAll 4 = .ok (.invokevirtual 86, 3) := by decide +kernel
theorem dX7_takesAll_7 : decode cX7_takesAll 7 = .ok (.if_icmp .ge 23, 3) := by decide +kernel
theorem dX7_takesAll_10 : decode cX7_takesAll 10 = .ok (.aload_n 0, 1) := by decide +kernel
theorem dX7_takesAll_11 : decode cX7_takesAll 11 = .ok (.aload_n 1, 1) := by decide +kernel
theorem dX7_takesAll_12 : decode cX7_takesAll 12 = .ok (.iload_n 2, 1) := by decide +kernel
theorem dX7_takesAll_13 : decode cX7_takesAll 13 = .ok (.invokevirtual 90, 3) := by decide +kernel
theorem dX7_takesAll_16 : decode cX7_takesAll 16 = .ok (.invokevirtual 38, 3) := by decide +kernel
theorem dX7_takesAll_19 : decode cX7_takesAll 19 = .ok (.ifCond .ne 5, 3) := by decide +kernel
theorem dX7_takesAll_22 : decode cX7_takesAll 22 = .ok (.iconst 0, 1) := by decide +kernel
theorem dX7_takesAll_23 : decode cX7_takesAll 23 = .ok (.ireturn, 1) := by decide +kernel
theorem dX7_takesAll_24 : decode cX7_takesAll 24 = .ok (.iinc 2 1, 3) := by decide +kernel
theorem dX7_takesAll_27 : decode cX7_takesAll 27 = .ok (.goto (-25), 3) := by decide +kernel
theorem dX7_takesAll_30 : decode cX7_takesAll 30 = .ok (.iconst 1, 1) := by decide +kernel
theorem dX7_takesAll_31 : decode cX7_takesAll 31 = .ok (.ireturn, 1) := by decide +kernel
set_option maxRecDepth 20000 in
theorem ggX7_takesOne_J0_indexOf_0f7a4 : GoodIn wsX7_takesOne wsJ0_indexOf_0f7a4 := goodIn_r _ [8, 9, 10, 11, 7, 12, 13, 14, 15, 16, 17, 18, 19, 20, 21, 22, 23, 24, 25, 26, 27, 28, 29, 30, 31, 32, 33, 34, 35, 36, 37, 38, 39, 40, 41, 42, 43, 44, 45, 46, 47, 48, 49, 50, 51, 52, 53, 54, 55, 56, 57, 58, 59, 60, 61, 62, 63, 64, 65, 66, 67, 68, 69, 70, 71, 72, 73, 74, 75, 76, 77, 78, 79, 80, 81, 82, 83, 84, 85, 86, 87, 88, 89, 90, 91, 92] (by decide +kernel) (by decide +kernel)
set_option maxRecDepth 20000 in
theorem gX7_takesOne_J0_indexOf_0f7a4 : GoodIn wsX7_takesOne (wsV RX7 94 RJ0 yJ0_indexOf_0f7a4 wsJ0_indexOf_0f7a4) := goodIn_app (goodIn_of _ (by decide +kernel)) ggX7_takesOne_J0_indexOf_0f7a4
theorem dX7_takesOne_0 : decode cX7_takesOne 0 = .ok (.aload_n 0, 1) := by decide +kernel
theorem dX7_takesOne_1 : decode cX7_takesOne 1 = .ok (.getfield 22, 3) := by decide +kernel
theorem dX7_takesOne_4 : decode cX7_takesOne 4 = .ok (.aload_n 0, 1) := by decide +kernel
theorem dX7_takesOne_5 : decode cX7_takesOne 5 = .ok (.getfield 19, 3) := by decide +kernel
theorem dX7_takesOne_8 : decode cX7_takesOne 8 = .ok (.if_icmp .ge 20, 3) := by decide +kernel
theorem dX7_takesOne_11 : decode cX7_takesOne 11 = .ok (.aload_n 1, 1) := by decide +kernel
theorem dX7_takesOne_12 : decode cX7_takesOne 12 = .ok (.aload_n 0, 1) := by decide +kernel
theorem dX7_takesOne_13 : decode cX7_takesOne 13 = .ok (.getfield 9, 3) := by decide +kernel
theorem dX7_takesOne_16 : decode cX7_takesOne 16 = .ok (.aload_n 0, 1) := by decide +kernel
theorem dX7_takesOne_17 : decode cX7_takesOne 17 = .ok (.getfield 22, 3) := by decide +kernel
theorem dX7_takesOne_20 : decode cX7_takesOne 20 = .ok (.baload, 1) := by decide +kernel
theorem dX7_takesOne_21 : decode cX7_takesOne 21 = .ok (.i2c, 1) := by decide +kernel
theorem dX7_takesOne_22 : decode cX7_takesOne 22 = .ok (.invokevirtual 94, 3) := by decide +kernel
theorem dX7_takesOne_25 : decode cX7_takesOne 25 = .ok (.goto 4, 3) := by decide +kernel
theorem dX7_takesOne_28 : decode cX7_takesOne 28 = .ok (.iconst (-1), 1) := by decide +kernel
theorem dX7_takesOne_29 : decode cX7_takesOne 29 = .ok (.istore_n 2, 1) := by decide +kernel
theorem dX7_takesOne_30 : decode cX7_takesOne 30 = .ok (.iload_n 2, 1) := by decide +kernel
theorem dX7_takesOne_31 : decode cX7_takesOne 31 = .ok (.ifCond .lt 13, 3) := by decide +kernel
theorem dX7_takesOne_34 : decode cX7_takesOne 34 = .ok (.aload_n 0, 1) := by decide +kernel
theorem dX7_takesOne_35 : decode cX7_takesOne 35 = .ok (.dup, 1) := by decide +kernel
theorem dX7_takesOne_36 : decode cX7_takesOne 36 = .ok (.getfield 22, 3) := by decide +kernel
theorem dX7_takesOne_39 : decode cX7_takesOne 39 = .ok (.iconst 1, 1) := by decide +kernel
theorem dX7_takesOne_40 : decode cX7_takesOne 40 = .ok (.iadd, 1) := by decide +kernel
theorem dX7_takesOne_41 : decode cX7_takesOne 41 = .ok (.putfield 22, 3) := by decide +kernel
theorem dX7_takesOne_44 : decode cX7_takesOne 44 = .ok (.iload_n 2, 1) := by decide +kernel
theorem dX7_takesOne_45 : decode cX7_takesOne 45 = .ok (.ireturn, 1) := by decide +kernel
set_option maxRecDepth 20000 in
theorem ggX8_init_X1_init : GoodIn wsX8_init wsX1_init := goodIn_r _ [39, 40, 2, 3, 41, 42, 43, 44, 45, 46, 47, 48, 49, 50, 51, 52, 53, 100, 101, 102, 103, 104, 105, 106, 107, 108, 109, 110, 111, 112, 113, 114, 115, 116] (by decide +kernel) (by decide +kernel)
set_option maxRecDepth 20000 in
theorem gX8_init_X1_init : GoodIn wsX8_init (wsX1_init) := ggX8_init_X1_init
set_option maxRecDepth 20000 in
theorem ggX8_init_X3_init : GoodIn wsX8_init wsX3_init := goodIn_r _ [55, 56, 2, 3, 57, 58, 59, 60, 61, 62, 63, 64, 65, 66, 67, 68, 69, 70, 41, 71, 72, 73, 154, 155, 156, 157, 129, 130, 131] (by decide +kernel) (by decide +kernel)
set_option maxRecDepth 20000 in
theorem gX8_init_X3_init_n30 : GoodIn wsX8_init (wsX3_init) := ggX8_init_X3_init
set_option maxRecDepth 20000 in
theorem ggX8_init_X7_init : GoodIn wsX8_init wsX7_init := goodIn_r _ [75, 76, 2, 3, 77, 78, 132, 133, 134, 135, 136] (by decide +kernel) (by decide +kernel)
set_option maxRecDepth 20000 in
theorem gX8_init_X7_init_n40 : GoodIn wsX8_init (wsX7_init) := ggX8_init_X7_init
set_option maxRecDepth 20000 in
theorem ggX8_init_X5_init : GoodIn wsX8_init wsX5_init := goodIn_r _ [80, 81, 2, 3, 41, 82, 83, 84, 85, 137, 138, 139, 140, 141, 142] (by decide +kernel) (by decide +kernel)
set_option maxRecDepth 20000 in
theorem gX8_init_X5_init_n53 : GoodIn wsX8_init (wsX5_init) := ggX8_init_X5_init
set_option maxRecDepth 20000 in
theorem ggX8_init_X0_init : GoodIn wsX8_init wsX0_init := goodIn_r _ [87, 88, 2, 3, 41, 89, 143, 144, 145, 146, 147] (by decide +kernel) (by decide +kernel)
set_option maxRecDepth 20000 in
theorem gX8_init_X0_init_n60 : GoodIn wsX8_init (wsX0_init) := ggX8_init_X0_init
set_option maxRecDepth 20000 in
theorem ggX8_init_X2_init : GoodIn wsX8_init wsX2_init := goodIn_r _ [91, 92, 2, 3, 41, 93, 148, 149, 150] (by decide +kernel) (by decide +kernel)
set_option maxRecDepth 20000 in
theorem gX8_init_X2_init_n71 : GoodIn wsX8_init (wsX2_init) := ggX8_init_X2_init
set_option maxRecDepth 20000 in
theorem ggX8_init_X6_init : GoodIn wsX8_init wsX6_init := goodIn_r _ [95, 96, 2, 3, 97, 98, 99, 151, 152, 153] (by decide +kernel) (by decide +kernel)
set_option maxRecDepth 20000 in
theorem gX8_init_X6_init_n72 : GoodIn wsX8_init (wsX6_init) := ggX8_init_X6_init
theorem dX8_init_0 : decode cX8_init 0 = .ok (.aload_n 0, 1) := by decide +kernel
theorem dX8_init_1 : decode cX8_init 1 = .ok (.invokespecial 3, 3) := by decide +kernel
theorem dX8_init_4 : decode cX8_init 4 = .ok (.aload_n 0, 1) := by decide +kernel
theorem dX8_init_5 : decode cX8_init 5 = .ok (.new 9, 3) := by decide +kernel
theorem dX8_init_8 : decode cX8_init 8 = .ok (.dup, 1) := by decide +kernel
theorem dX8_init_9 : decode cX8_init 9 = .ok (.sipush 9999, 3) := by decide +kernel
theorem dX8_init_12 : decode cX8_init 12 = .ok (.ldc 13, 2) := by decide +kernel
theorem dX8_init_14 : decode cX8_init 14 = .ok (.invokespecial 14, 3) := by decide +kernel
theorem dX8_init_17 : decode cX8_init 17 = .ok (.putfield 17, 3) := by decide +kernel
theorem dX8_init_20 : decode cX8_init 20 = .ok (.aload_n 0, 1) := by decide +kernel
theorem dX8_init_21 : decode cX8_init 21 = .ok (.new 9, 3) := by decide +kernel
theorem dX8_init_24 : decode cX8_init 24 = .ok (.dup, 1) := by decide +kernel
theorem dX8_init_25 : decode cX8_init 25 = .ok (.ldc 21, 2) := by decide +kernel
theorem dX8_init_27 : decode cX8_init 27 = .ok (.ldc 21, 2) := by decide +kernel
theorem dX8_init_29 : decode cX8_init 29 = .ok (.invokespecial 14, 3) := by decide +kernel
theorem dX8_init_32 : decode cX8_init 32 = .ok (.putfield 22, 3) := by decide +kernel
theorem dX8_init_35 : decode cX8_init 35 = .ok (.aload_n 0, 1) := by decide +kernel
theorem dX8_init_36 : decode cX8_init 36 = .ok (.new 9, 3) := by decide +kernel
theorem dX8_init_39 : decode cX8_init 39 = .ok (.dup, 1) := by decide +kernel
theorem dX8_init_40 : decode cX8_init 40 = .ok (.sipush 9999, 3) := by decide +kernel
theorem dX8_init_43 : decode cX8_init 43 = .ok (.ldc 13, 2) := by decide +kernel
theorem dX8_init_45 : decode cX8_init 45 = .ok (.invokespecial 14, 3) := by decide +kernel
theorem dX8_init_48 : decode cX8_init 48 = .ok (.putfield 25, 3) := by decide +kernel
theorem dX8_init_51 : decode cX8_init 51 = .ok (.aload_n 0, 1) := by decide +kernel
theorem dX8_init_52 : decode cX8_init 52 = .ok (.new 28, 3) := by decide +kernel
theorem dX8_init_55 : decode cX8_init 55 = .ok (.dup, 1) := by decide +kernel
theorem dX8_init_56 : decode cX8_init 56 = .ok (.invokespecial 30, 3) := by decide +kernel
theorem dX8_init_59 : decode cX8_init 59 = .ok (.putfield 31, 3) := by decide +kernel
theorem dX8_init_62 : decode cX8_init 62 = .ok (.aload_n 0, 1) := by decide +kernel
theorem dX8_init_63 : decode cX8_init 63 = .ok (.new 28, 3) := by decide +kernel
theorem dX8_init_66 : decode cX8_init 66 = .ok (.dup, 1) := by decide +kernel
theorem dX8_init_67 : decode cX8_init 67 = .ok (.invokespecial 30, 3) := by decide +kernel
theorem dX8_init_70 : decode cX8_init 70 = .ok (.putfield 35, 3) := by decide +kernel
theorem dX8_init_73 : decode cX8_init 73 = .ok (.aload_n 0, 1) := by decide +kernel
theorem dX8_init_74 : decode cX8_init 74 = .ok (.new 38, 3) := by decide +kernel
theorem dX8_init_77 : decode cX8_init 77 = .ok (.dup, 1) := by decide +kernel
theorem dX8_init_78 : decode cX8_init 78 = .ok (.invokespecial 40, 3) := by decide +kernel
theorem dX8_init_81 : decode cX8_init 81 = .ok (.putfield 41, 3) := by decide +kernel
theorem dX8_init_84 : decode cX8_init 84 = .ok (.aload_n 0, 1) := by decide +kernel
theorem dX8_init_85 : decode cX8_init 85 = .ok (.bipush 6, 2) := by decide +kernel
theorem dX8_init_87 : decode cX8_init 87 = .ok (.anewarray 45, 3) := by decide +kernel
theorem dX8_init_90 : decode cX8_init 90 = .ok (.putfield 47, 3) := by decide +kernel
theorem dX8_init_93 : decode cX8_init 93 = .ok (.aload_n 0, 1) := by decide +kernel
theorem dX8_init_94 : decode cX8_init 94 = .ok (.new 51, 3) := by decide +kernel
theorem dX8_init_97 : decode cX8_init 97 = .ok (.dup, 1) := by decide +kernel
theorem dX8_init_98 : decode cX8_init 98 = .ok (.invokespecial 53, 3) := by decide +kernel
theorem dX8_init_101 : decode cX8_init 101 = .ok (.putfield 54, 3) := by decide +kernel
theorem dX8_init_104 : decode cX8_init 104 = .ok (.aload_n 0, 1) := by decide +kernel
theorem dX8_init_105 : decode cX8_init 105 = .ok (.new 58, 3) := by decide +kernel
theorem dX8_init_108 : decode cX8_init 108 = .ok (.dup, 1) := by decide +kernel
theorem dX8_init_109 : decode cX8_init 109 = .ok (.invokespecial 60, 3) := by decide +kernel
theorem dX8_init_112 : decode cX8_init 112 = .ok (.putfield 61, 3) := by decide +kernel
theorem dX8_init_115 : decode cX8_init 115 = .ok (.aload_n 0, 1) := by decide +kernel
theorem dX8_init_116 : decode cX8_init 116 = .ok (.bipush 6, 2) := by decide +kernel
theorem dX8_init_118 : decode cX8_init 118 = .ok (.anewarray 65, 3) := by decide +kernel
theorem dX8_init_121 : decode cX8_init 121 = .ok (.putfield 67, 3) := by decide +kernel
theorem dX8_init_124 : decode cX8_init 124 = .ok (.iconst 0, 1) := by decide +kernel
theorem dX8_init_125 : decode cX8_init 125 = .ok (.istore_n 1, 1) := by decide +kernel
theorem dX8_init_126 : decode cX8_init 126 = .ok (.iload_n 1, 1) := by decide +kernel
theorem dX8_init_127 : decode cX8_init 127 = .ok (.bipush 6, 2) := by decide +kernel
theorem dX8_init_129 : decode cX8_init 129 = .ok (.if_icmp .ge 22, 3) := by decide +kernel
theorem dX8_init_132 : decode cX8_init 132 = .ok (.aload_n 0, 1) := by decide +kernel
theorem dX8_init_133 : decode cX8_init 133 = .ok (.getfield 47, 3) := by decide +kernel
theorem dX8_init_136 : decode cX8_init 136 = .ok (.iload_n 1, 1) := by decide +kernel
theorem dX8_init_137 : decode cX8_init 137 = .ok (.new 45, 3) := by decide +kernel
theorem dX8_init_140 : decode cX8_init 140 = .ok (.dup, 1) := by decide +kernel
theorem dX8_init_141 : decode cX8_init 141 = .ok (.invokespecial 71, 3) := by decide +kernel
theorem dX8_init_144 : decode cX8_init 144 = .ok (.aastore, 1) := by decide +kernel
theorem dX8_init_145 : decode cX8_init 145 = .ok (.iinc 1 1, 3) := by decide +kernel
theorem dX8_init_148 : decode cX8_init 148 = .ok (.goto (-22), 3) := by decide +kernel
theorem dX8_init_151 : decode cX8_init 151 = .ok (.iconst 0, 1) := by decide +kernel
theorem dX8_init_152 : decode cX8_init 152 = .ok (.istore_n 1, 1) := by decide +kernel
theorem dX8_init_153 : decode cX8_init 153 = .ok (.iload_n 1, 1) := by decide +kernel
theorem dX8_init_154 : decode cX8_init 154 = .ok (.bipush 6, 2) := by decide +kernel
theorem dX8_init_156 : decode cX8_init 156 = .ok (.if_icmp .ge 22, 3) := by decide +kernel
theorem dX8_init_159 : decode cX8_init 159 = .ok (.aload_n 0, 1) := by decide +kernel
theorem dX8_init_160 : decode cX8_init 160 = .ok (.getfield 67, 3) := by decide +kernel
theorem dX8_init_163 : decode cX8_init 163 = .ok (.iload_n 1, 1) := by decide +kernel
theorem dX8_init_164 : decode cX8_init 164 = .ok (.new 65, 3) := by decide +kernel
theorem dX8_init_167 : decode cX8_init 167 = .ok (.dup, 1) := by decide +kernel
theorem dX8_init_168 : decode cX8_init 168 = .ok (.invokespecial 72, 3) := by decide +kernel
theorem dX8_init_171 : decode cX8_init 171 = .ok (.aastore, 1) := by decide +kernel
theorem dX8_init_172 : decode cX8_init 172 = .ok (.iinc 1 1, 3) := by decide +kernel
theorem dX8_init_175 : decode cX8_init 175 = .ok (.goto (-22), 3) := by decide +kernel
theorem dX8_init_178 : decode cX8_init 178 = .ok (.return_, 1) := by decide +kernel
set_option maxRecDepth 20000 in
theorem ggX8_master_X8_within : GoodIn wsX8_master wsX8_within := goodIn_r _ [6] (by decide +kernel) (by decide +kernel)
set_option maxRecDepth 20000 in
theorem gX8_master_X8_within : GoodIn wsX8_master (va_wsS RX8 73 yX8_within wsX8_within) := goodIn_app (goodIn_of _ (by decide +kernel)) ggX8_master_X8_within
set_option maxRecDepth 20000 in
theorem ggX8_master_X1_comes : GoodIn wsX8_master wsX1_comes := goodIn_r _ [11, 12, 13, 14, 15, 16, 29, 30, 31, 32, 33, 34, 35, 36, 37, 38, 39, 40, 41, 42, 43, 44, 45] (by decide +kernel) (by decide +kernel)
set_option maxRecDepth 20000 in
theorem gX8_master_X1_comes : GoodIn wsX8_master (wsV RX8 81 RX1 yX1_comes wsX1_comes) := goodIn_app (goodIn_of _ (by decide +kernel)) ggX8_master_X1_comes
theorem dX8_master_0 : decode cX8_master 0 = .ok (.iload_n 1, 1) := by decide +kernel
theorem dX8_master_1 : decode cX8_master 1 = .ok (.i2l, 1) := by decide +kernel
theorem dX8_master_2 : decode cX8_master 2 = .ok (.bipush 7, 2) := by decide +kernel
theorem dX8_master_4 : decode cX8_master 4 = .ok (.invokestatic 73, 3) := by decide +kernel
theorem dX8_master_7 : decode cX8_master 7 = .ok (.ifCond .eq 13, 3) := by decide +kernel
theorem dX8_master_10 : decode cX8_master 10 = .ok (.iload_n 3, 1) := by decide +kernel
theorem dX8_master_11 : decode cX8_master 11 = .ok (.i2l, 1) := by decide +kernel
theorem dX8_master_12 : decode cX8_master 12 = .ok (.bipush 10, 2) := by decide +kernel
theorem dX8_master_14 : decode cX8_master 14 = .ok (.invokestatic 73, 3) := by decide +kernel
theorem dX8_master_17 : decode cX8_master 17 = .ok (.ifCond .ne 5, 3) := by decide +kernel
theorem dX8_master_20 : decode cX8_master 20 = .ok (.iconst (-1), 1) := by decide +kernel
theorem dX8_master_21 : decode cX8_master 21 = .ok (.ireturn, 1) := by decide +kernel
theorem dX8_master_22 : decode cX8_master 22 = .ok (.iload_n 2, 1) := by decide +kernel
theorem dX8_master_23 : decode cX8_master 23 = .ok (.i2l, 1) := by decide +kernel
theorem dX8_master_24 : decode cX8_master 24 = .ok (.bipush 10, 2) := by decide +kernel
theorem dX8_master_26 : decode cX8_master 26 = .ok (.invokestatic 73, 3) := by decide +kernel
theorem dX8_master_29 : decode cX8_master 29 = .ok (.ifCond .ne 6, 3) := by decide +kernel
theorem dX8_master_32 : decode cX8_master 32 = .ok (.bipush (-2), 2) := by decide +kernel
theorem dX8_master_34 : decode cX8_master 34 = .ok (.ireturn, 1) := by decide +kernel
theorem dX8_master_35 : decode cX8_master 35 = .ok (.aload_n 0, 1) := by decide +kernel
theorem dX8_master_36 : decode cX8_master 36 = .ok (.getfield 17, 3) := by decide +kernel
theorem dX8_master_39 : decode cX8_master 39 = .ok (.getfield 77, 3) := by decide +kernel
theorem dX8_master_42 : decode cX8_master 42 = .ok (.bipush 6, 2) := by decide +kernel
theorem dX8_master_44 : decode cX8_master 44 = .ok (.if_icmp .lt 8, 3) := by decide +kernel
theorem dX8_master_47 : decode cX8_master 47 = .ok (.bipush (-4), 2) := by decide +kernel
theorem dX8_master_49 : decode cX8_master 49 = .ok (.goto 13, 3) := by decide +kernel
theorem dX8_master_52 : decode cX8_master 52 = .ok (.aload_n 0, 1) := by decide +kernel
theorem dX8_master_53 : decode cX8_master 53 = .ok (.getfield 17, 3) := by decide +kernel
theorem dX8_master_56 : decode cX8_master 56 = .ok (.iload_n 1, 1) := by decide +kernel
theorem dX8_master_57 : decode cX8_master 57 = .ok (.iload_n 2, 1) := by decide +kernel
theorem dX8_master_58 : decode cX8_master 58 = .ok (.iload_n 3, 1) := by decide +kernel
theorem dX8_master_59 : decode cX8_master 59 = .ok (.invokevirtual 81, 3) := by decide +kernel
theorem dX8_master_62 : decode cX8_master 62 = .ok (.ireturn, 1) := by decide +kernel
set_option maxRecDepth 20000 in
theorem ggX8_of_X8_isMaster : GoodIn wsX8_of wsX8_isMaster := goodIn_r _ [14, 2, 15, 16, 17, 13, 18, 125, 126, 127, 128, 129, 130, 131, 132, 133, 134, 135, 136, 137, 138, 139, 140, 141, 142, 143, 144, 145, 146, 147, 148, 149, 150, 151, 152, 153] (by decide +kernel) (by decide +kernel)
set_option maxRecDepth 20000 in
theorem gX8_of_X8_isMaster : GoodIn wsX8_of (wsV RX8 85 RX8 yX8_isMaster wsX8_isMaster) := goodIn_app (goodIn_of _ (by decide +kernel)) ggX8_of_X8_isMaster
set_option maxRecDepth 20000 in
theorem ggX8_of_X8_within : GoodIn wsX8_of wsX8_within := goodIn_r _ [18] (by decide +kernel) (by decide +kernel)
set_option maxRecDepth 20000 in
theorem gX8_of_X8_within : GoodIn wsX8_of (va_wsS RX8 73 yX8_within wsX8_within) := goodIn_app (goodIn_of _ (by decide +kernel)) ggX8_of_X8_within
set_option maxRecDepth 20000 in
theorem ggX8_of_X1_cost : GoodIn wsX8_of wsX1_cost := goodIn_r _ [23, 24, 25, 26, 27, 28, 29, 30, 31, 32, 22, 33, 34, 35, 36, 37, 38, 39, 40, 41, 42, 43, 44, 45, 46, 137, 138, 139, 140, 141, 142, 143, 144, 145, 146, 147, 148, 149, 150, 151, 152, 153, 154, 155, 156] (by decide +kernel) (by decide +kernel)
set_option maxRecDepth 20000 in
theorem gX8_of_X1_cost : GoodIn wsX8_of (wsV RX8 91 RX1 yX1_cost wsX1_cost) := goodIn_app (goodIn_of _ (by decide +kernel)) ggX8_of_X1_cost
set_option maxRecDepth 20000 in
theorem ggX8_of_X1_isFree : GoodIn wsX8_of wsX1_isFree := goodIn_r _ [50, 51, 52, 53, 137, 138, 139, 140, 141, 142, 143, 144, 145, 146, 147, 148, 149, 150, 151, 152, 153] (by decide +kernel) (by decide +kernel)
set_option maxRecDepth 20000 in
theorem gX8_of_X1_isFree : GoodIn wsX8_of (wsV RX8 117 RX1 yX1_isFree wsX1_isFree) := goodIn_app (goodIn_of _ (by decide +kernel)) ggX8_of_X1_isFree
set_option maxRecDepth 20000 in
theorem ggX8_of_X8_standsBest : GoodIn wsX8_of wsX8_standsBest := goodIn_r _ [57, 58, 59, 2, 5, 60, 61, 62, 63, 22, 64, 26, 25, 24, 52, 53, 51, 27, 29, 65, 66, 67, 68, 28, 38, 69, 13, 70, 71, 72, 36, 73, 74, 75, 76, 77, 78, 79, 80, 81, 82, 83, 84, 85, 86, 87, 88, 89, 90, 91, 92, 93, 94, 95, 96, 97, 98, 99, 100, 101, 102, 103, 104, 48, 49, 50, 105, 20, 21, 23, 30, 31, 32, 33, 34, 35, 37, 39, 40, 41, 42, 43, 44, 45, 46, 106, 107, 108, 109, 110, 111, 112, 113, 114, 115, 116, 117, 118, 119, 120, 121, 122, 123, 124, 125, 126, 127, 128, 129, 130, 131, 132, 133, 134, 135, 136, 137, 138, 139, 140, 141, 142, 143, 144, 145, 146, 147, 148, 149, 150, 151, 152, 153, 154, 155, 156] (by decide +kernel) (by decide +kernel)
set_option maxRecDepth 20000 in
theorem gX8_of_X8_standsBest : GoodIn wsX8_of (wsV RX8 121 RX8 yX8_standsBest wsX8_standsBest) := goodIn_app (goodIn_of _ (by decide +kernel)) ggX8_of_X8_standsBest
theorem dX8_of_0 : decode cX8_of 0 = .ok (.aload_n 0, 1) := by decide +kernel
theorem dX8_of_1 : decode cX8_of 1 = .ok (.iload_n 1, 1) := by decide +kernel
theorem dX8_of_2 : decode cX8_of 2 = .ok (.i2l, 1) := by decide +kernel
theorem dX8_of_3 : decode cX8_of 3 = .ok (.invokevirtual 85, 3) := by decide +kernel
theorem dX8_of_6 : decode cX8_of 6 = .ok (.ifCond .ne 7, 3) := by decide +kernel
theorem dX8_of_9 : decode cX8_of 9 = .ok (.sipush (-10001), 3) := by decide +kernel
theorem dX8_of_12 : decode cX8_of 12 = .ok (.ireturn, 1) := by decide +kernel
theorem dX8_of_13 : decode cX8_of 13 = .ok (.iload_n 2, 1) := by decide +kernel
theorem dX8_of_14 : decode cX8_of 14 = .ok (.i2l, 1) := by decide +kernel
theorem dX8_of_15 : decode cX8_of 15 = .ok (.ldc2_w 89, 3) := by decide +kernel
theorem dX8_of_18 : decode cX8_of 18 = .ok (.lsub, 1) := by decide +kernel
theorem dX8_of_19 : decode cX8_of 19 = .ok (.bipush 10, 2) := by decide +kernel
theorem dX8_of_21 : decode cX8_of 21 = .ok (.invokestatic 73, 3) := by decide +kernel
theorem dX8_of_24 : decode cX8_of 24 = .ok (.ifCond .eq 16, 3) := by decide +kernel
theorem dX8_of_27 : decode cX8_of 27 = .ok (.aload_n 0, 1) := by decide +kernel
theorem dX8_of_28 : decode cX8_of 28 = .ok (.getfield 17, 3) := by decide +kernel
theorem dX8_of_31 : decode cX8_of 31 = .ok (.iload_n 1, 1) := by decide +kernel
theorem dX8_of_32 : decode cX8_of 32 = .ok (.iload_n 2, 1) := by decide +kernel
theorem dX8_of_33 : decode cX8_of 33 = .ok (.bipush 10, 2) := by decide +kernel
theorem dX8_of_35 : decode cX8_of 35 = .ok (.isub, 1) := by decide +kernel
theorem dX8_of_36 : decode cX8_of 36 = .ok (.invokevirtual 91, 3) := by decide +kernel
theorem dX8_of_39 : decode cX8_of 39 = .ok (.ireturn, 1) := by decide +kernel
theorem dX8_of_40 : decode cX8_of 40 = .ok (.iload_n 2, 1) := by decide +kernel
theorem dX8_of_41 : decode cX8_of 41 = .ok (.tableswitch 144 0 8 #[51, 61, 71, 81, 91, 101, 111, 121, 138], 51) := by decide +kernel
theorem dX8_of_92 : decode cX8_of 92 = .ok (.aload_n 0, 1) := by decide +kernel
theorem dX8_of_93 : decode cX8_of 93 = .ok (.getfield 17, 3) := by decide +kernel
theorem dX8_of_96 : decode cX8_of 96 = .ok (.getfield 95, 3) := by decide +kernel
theorem dX8_of_99 : decode cX8_of 99 = .ok (.iload_n 1, 1) := by decide +kernel
theorem dX8_of_100 : decode cX8_of 100 = .ok (.iaload, 1) := by decide +kernel
theorem dX8_of_101 : decode cX8_of 101 = .ok (.ireturn, 1) := by decide +kernel
theorem dX8_of_102 : decode cX8_of 102 = .ok (.aload_n 0, 1) := by decide +kernel
theorem dX8_of_103 : decode cX8_of 103 = .ok (.getfield 17, 3) := by decide +kernel
theorem dX8_of_106 : decode cX8_of 106 = .ok (.getfield 99, 3) := by decide +kernel
theorem dX8_of_109 : decode cX8_of 109 = .ok (.iload_n 1, 1) := by decide +kernel
theorem dX8_of_110 : decode cX8_of 110 = .ok (.iaload, 1) := by decide +kernel
theorem dX8_of_111 : decode cX8_of 111 = .ok (.ireturn, 1) := by decide +kernel
theorem dX8_of_112 : decode cX8_of 112 = .ok (.aload_n 0, 1) := by decide +kernel
theorem dX8_of_113 : decode cX8_of 113 = .ok (.getfield 17, 3) := by decide +kernel
theorem dX8_of_116 : decode cX8_of 116 = .ok (.getfield 102, 3) := by decide +kernel
theorem dX8_of_119 : decode cX8_of 119 = .ok (.iload_n 1, 1) := by decide +kernel
theorem dX8_of_120 : decode cX8_of 120 = .ok (.iaload, 1) := by decide +kernel
theorem dX8_of_121 : decode cX8_of 121 = .ok (.ireturn, 1) := by decide +kernel
theorem dX8_of_122 : decode cX8_of 122 = .ok (.aload_n 0, 1) := by decide +kernel
theorem dX8_of_123 : decode cX8_of 123 = .ok (.getfield 17, 3) := by decide +kernel
theorem dX8_of_126 : decode cX8_of 126 = .ok (.getfield 105, 3) := by decide +kernel
theorem dX8_of_129 : decode cX8_of 129 = .ok (.iload_n 1, 1) := by decide +kernel
theorem dX8_of_130 : decode cX8_of 130 = .ok (.iaload, 1) := by decide +kernel
theorem dX8_of_131 : decode cX8_of 131 = .ok (.ireturn, 1) := by decide +kernel
theorem dX8_of_132 : decode cX8_of 132 = .ok (.aload_n 0, 1) := by decide +kernel
theorem dX8_of_133 : decode cX8_of 133 = .ok (.getfield 17, 3) := by decide +kernel
theorem dX8_of_136 : decode cX8_of 136 = .ok (.getfield 108, 3) := by decide +kernel
theorem dX8_of_139 : decode cX8_of 139 = .ok (.iload_n 1, 1) := by decide +kernel
theorem dX8_of_140 : decode cX8_of 140 = .ok (.iaload, 1) := by decide +kernel
theorem dX8_of_141 : decode cX8_of 141 = .ok (.ireturn, 1) := by decide +kernel
theorem dX8_of_142 : decode cX8_of 142 = .ok (.aload_n 0, 1) := by decide +kernel
theorem dX8_of_143 : decode cX8_of 143 = .ok (.getfield 17, 3) := by decide +kernel
theorem dX8_of_146 : decode cX8_of 146 = .ok (.getfield 111, 3) := by decide +kernel
theorem dX8_of_149 : decode cX8_of 149 = .ok (.iload_n 1, 1) := by decide +kernel
theorem dX8_of_150 : decode cX8_of 150 = .ok (.iaload, 1) := by decide +kernel
theorem dX8_of_151 : decode cX8_of 151 = .ok (.ireturn, 1) := by decide +kernel
theorem dX8_of_152 : decode cX8_of 152 = .ok (.aload_n 0, 1) := by decide +kernel
theorem dX8_of_153 : decode cX8_of 153 = .ok (.getfield 17, 3) := by decide +kernel
theorem dX8_of_156 : decode cX8_of 156 = .ok (.getfield 114, 3) := by decide +kernel
theorem dX8_of_159 : decode cX8_of 159 = .ok (.iload_n 1, 1) := by decide +kernel
theorem dX8_of_160 : decode cX8_of 160 = .ok (.iaload, 1) := by decide +kernel
theorem dX8_of_161 : decode cX8_of 161 = .ok (.ireturn, 1) := by decide +kernel
theorem dX8_of_162 : decode cX8_of 162 = .ok (.aload_n 0, 1) := by decide +kernel
theorem dX8_of_163 : decode cX8_of 163 = .ok (.getfield 17, 3) := by decide +kernel
theorem dX8_of_166 : decode cX8_of 166 = .ok (.iload_n 1, 1) := by decide +kernel
theorem dX8_of_167 : decode cX8_of 167 = .ok (.invokevirtual 117, 3) := by decide +kernel
theorem dX8_of_170 : decode cX8_of 170 = .ok (.ifCond .eq 7, 3) := by decide +kernel
theorem dX8_of_173 : decode cX8_of 173 = .ok (.iconst 1, 1) := by decide +kernel
theorem dX8_of_174 : decode cX8_of 174 = .ok (.goto 4, 3) := by decide +kernel
theorem dX8_of_177 : decode cX8_of 177 = .ok (.iconst 0, 1) := by decide +kernel
theorem dX8_of_178 : decode cX8_of 178 = .ok (.ireturn, 1) := by decide +kernel
theorem dX8_of_179 : decode cX8_of 179 = .ok (.aload_n 0, 1) := by decide +kernel
theorem dX8_of_180 : decode cX8_of 180 = .ok (.iload_n 1, 1) := by decide +kernel
theorem dX8_of_181 : decode cX8_of 181 = .ok (.invokevirtual 121, 3) := by decide +kernel
theorem dX8_of_184 : decode cX8_of 184 = .ok (.ireturn, 1) := by decide +kernel
theorem dX8_of_185 : decode cX8_of 185 = .ok (.sipush (-10001), 3) := by decide +kernel
theorem dX8_of_188 : decode cX8_of 188 = .ok (.ireturn, 1) := by decide +kernel
set_option maxRecDepth 20000 in
theorem ggX8_set_X8_isMaster : GoodIn wsX8_set wsX8_isMaster := goodIn_r _ [8, 1, 9, 10, 11, 7, 12, 16, 17, 18, 19, 20, 21, 22, 23, 24, 25, 26, 27, 28, 29, 30, 31, 32, 33, 34, 35, 36, 37, 38, 39, 40, 41, 42, 43, 44] (by decide +kernel) (by decide +kernel)
set_option maxRecDepth 20000 in
theorem gX8_set_X8_isMaster : GoodIn wsX8_set (wsV RX8 85 RX8 yX8_isMaster wsX8_isMaster) := goodIn_app (goodIn_of _ (by decide +kernel)) ggX8_set_X8_isMaster
set_option maxRecDepth 20000 in
theorem ggX8_set_X8_within : GoodIn wsX8_set wsX8_within := goodIn_r _ [12] (by decide +kernel) (by decide +kernel)
set_option maxRecDepth 20000 in
theorem gX8_set_X8_within : GoodIn wsX8_set (va_wsS RX8 73 yX8_within wsX8_within) := goodIn_app (goodIn_of _ (by decide +kernel)) ggX8_set_X8_within
set_option maxRecDepth 20000 in
theorem ggX8_set_X8_swapIn : GoodIn wsX8_set wsX8_swapIn := goodIn_r _ [15] (by decide +kernel) (by decide +kernel)
set_option maxRecDepth 20000 in
theorem gX8_set_X8_swapIn : GoodIn wsX8_set (va_wsS RX8 125 yX8_swapIn wsX8_swapIn) := goodIn_app (goodIn_of _ (by decide +kernel)) ggX8_set_X8_swapIn
theorem dX8_set_0 : decode cX8_set 0 = .ok (.aload_n 0, 1) := by decide +kernel
theorem dX8_set_1 : decode cX8_set 1 = .ok (.iload_n 1, 1) := by decide +kernel
theorem dX8_set_2 : decode cX8_set 2 = .ok (.i2l, 1) := by decide +kernel
theorem dX8_set_3 : decode cX8_set 3 = .ok (.invokevirtual 85, 3) := by decide +kernel
theorem dX8_set_6 : decode cX8_set 6 = .ok (.ifCond .eq 12, 3) := by decide +kernel
theorem dX8_set_9 : decode cX8_set 9 = .ok (.iload_n 2, 1) := by decide +kernel
theorem dX8_set_10 : decode cX8_set 10 = .ok (.i2l, 1) := by decide +kernel
theorem dX8_set_11 : decode cX8_set 11 = .ok (.iconst 2, 1) := by decide +kernel
theorem dX8_set_12 : decode cX8_set 12 = .ok (.invokestatic 73, 3) := by decide +kernel
theorem dX8_set_15 : decode cX8_set 15 = .ok (.ifCond .ne 5, 3) := by decide +kernel
theorem dX8_set_18 : decode cX8_set 18 = .ok (.iconst (-1), 1) := by decide +kernel
theorem dX8_set_19 : decode cX8_set 19 = .ok (.ireturn, 1) := by decide +kernel
theorem dX8_set_20 : decode cX8_set 20 = .ok (.iload_n 3, 1) := by decide +kernel
theorem dX8_set_21 : decode cX8_set 21 = .ok (.i2l, 1) := by decide +kernel
theorem dX8_set_22 : decode cX8_set 22 = .ok (.iload_n 2, 1) := by decide +kernel
theorem dX8_set_23 : decode cX8_set 23 = .ok (.ifCond .ne 8, 3) := by decide +kernel
theorem dX8_set_26 : decode cX8_set 26 = .ok (.bipush 10, 2) := by decide +kernel
theorem dX8_set_28 : decode cX8_set 28 = .ok (.goto 5, 3) := by decide +kernel
theorem dX8_set_31 : decode cX8_set 31 = .ok (.bipush 100, 2) := by decide +kernel
theorem dX8_set_33 : decode cX8_set 33 = .ok (.invokestatic 73, 3) := by decide +kernel
theorem dX8_set_36 : decode cX8_set 36 = .ok (.ifCond .ne 6, 3) := by decide +kernel
theorem dX8_set_39 : decode cX8_set 39 = .ok (.bipush (-2), 2) := by decide +kernel
theorem dX8_set_41 : decode cX8_set 41 = .ok (.ireturn, 1) := by decide +kernel
theorem dX8_set_42 : decode cX8_set 42 = .ok (.iload_n 2, 1) := by decide +kernel
theorem dX8_set_43 : decode cX8_set 43 = .ok (.ifCond .ne 13, 3) := by decide +kernel
theorem dX8_set_46 : decode cX8_set 46 = .ok (.aload_n 0, 1) := by decide +kernel
theorem dX8_set_47 : decode cX8_set 47 = .ok (.getfield 17, 3) := by decide +kernel
theorem dX8_set_50 : decode cX8_set 50 = .ok (.getfield 102, 3) := by decide +kernel
theorem dX8_set_53 : decode cX8_set 53 = .ok (.goto 10, 3) := by decide +kernel
theorem dX8_set_56 : decode cX8_set 56 = .ok (.aload_n 0, 1) := by decide +kernel
theorem dX8_set_57 : decode cX8_set 57 = .ok (.getfield 17, 3) := by decide +kernel
theorem dX8_set_60 : decode cX8_set 60 = .ok (.getfield 108, 3) := by decide +kernel
theorem dX8_set_63 : decode cX8_set 63 = .ok (.iload_n 1, 1) := by decide +kernel
theorem dX8_set_64 : decode cX8_set 64 = .ok (.iload_n 3, 1) := by decide +kernel
theorem dX8_set_65 : decode cX8_set 65 = .ok (.invokestatic 125, 3) := by decide +kernel
theorem dX8_set_68 : decode cX8_set 68 = .ok (.ireturn, 1) := by decide +kernel
set_option maxRecDepth 20000 in
theorem ggX8_away_X8_isMaster : GoodIn wsX8_away wsX8_isMaster := goodIn_r _ [7, 1, 8, 9, 10, 6, 11, 15, 16, 17, 18, 19, 20, 21, 22, 23, 24, 25, 26, 27, 28, 29, 30, 31, 32, 33, 34, 35, 36, 37, 38, 39, 40, 41, 42, 43] (by decide +kernel) (by decide +kernel)
set_option maxRecDepth 20000 in
theorem gX8_away_X8_isMaster : GoodIn wsX8_away (wsV RX8 85 RX8 yX8_isMaster wsX8_isMaster) := goodIn_app (goodIn_of _ (by decide +kernel)) ggX8_away_X8_isMaster
set_option maxRecDepth 20000 in
theorem ggX8_away_X8_swapIn : GoodIn wsX8_away wsX8_swapIn := goodIn_r _ [14] (by decide +kernel) (by decide +kernel)
set_option maxRecDepth 20000 in
theorem gX8_away_X8_swapIn : GoodIn wsX8_away (va_wsS RX8 125 yX8_swapIn wsX8_swapIn) := goodIn_app (goodIn_of _ (by decide +kernel)) ggX8_away_X8_swapIn
theorem dX8_away_0 : decode cX8_away 0 = .ok (.aload_n 0, 1) := by decide +kernel
theorem dX8_away_1 : decode cX8_away 1 = .ok (.iload_n 1, 1) := by decide +kernel
theorem dX8_away_2 : decode cX8_away 2 = .ok (.i2l, 1) := by decide +kernel
theorem dX8_away_3 : decode cX8_away 3 = .ok (.invokevirtual 85, 3) := by decide +kernel
theorem dX8_away_6 : decode cX8_away 6 = .ok (.ifCond .eq 26, 3) := by decide +kernel
theorem dX8_away_9 : decode cX8_away 9 = .ok (.aload_n 0, 1) := by decide +kernel
theorem dX8_away_10 : decode cX8_away 10 = .ok (.getfield 17, 3) := by decide +kernel
theorem dX8_away_13 : decode cX8_away 13 = .ok (.getfield 111, 3) := by decide +kernel
theorem dX8_away_16 : decode cX8_away 16 = .ok (.iload_n 1, 1) := by decide +kernel
theorem dX8_away_17 : decode cX8_away 17 = .ok (.iload_n 2, 1) := by decide +kernel
theorem dX8_away_18 : decode cX8_away 18 = .ok (.ifCond .eq 7, 3) := by decide +kernel
theorem dX8_away_21 : decode cX8_away 21 = .ok (.iconst 1, 1) := by decide +kernel
theorem dX8_away_22 : decode cX8_away 22 = .ok (.goto 4, 3) := by decide +kernel
theorem dX8_away_25 : decode cX8_away 25 = .ok (.iconst 0, 1) := by decide +kernel
theorem dX8_away_26 : decode cX8_away 26 = .ok (.invokestatic 125, 3) := by decide +kernel
theorem dX8_away_29 : decode cX8_away 29 = .ok (.goto 4, 3) := by decide +kernel
theorem dX8_away_32 : decode cX8_away 32 = .ok (.iconst (-1), 1) := by decide +kernel
theorem dX8_away_33 : decode cX8_away 33 = .ok (.ireturn, 1) := by decide +kernel
