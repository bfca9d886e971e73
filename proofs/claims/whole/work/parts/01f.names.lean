theorem dX8_allIsSeen_17 : decode cX8_allIsSeen 17 = .ok (.ireturn, 1) := by decide +kernel
theorem dX8_allIsSeen_18 : decode cX8_allIsSeen 18 = .ok (.aload_n 0, 1) := by decide +kernel
theorem dX8_allIsSeen_19 : decode cX8_allIsSeen 19 = .ok (.getfield 22, 3) := by decide +kernel
theorem dX8_allIsSeen_22 : decode cX8_allIsSeen 22 = .ok (.iconst 1, 1) := by decide +kernel
theorem dX8_allIsSeen_23 : decode cX8_allIsSeen 23 = .ok (.invokevirtual 185, 3) := by decide +kernel
theorem dX8_allIsSeen_26 : decode cX8_allIsSeen 26 = .ok (.iinc 1 1, 3) := by decide +kernel
theorem dX8_allIsSeen_29 : decode cX8_allIsSeen 29 = .ok (.goto (-27), 3) := by decide +kernel
theorem dX8_allIsSeen_32 : decode cX8_allIsSeen 32 = .ok (.iconst 1, 1) := by decide +kernel
theorem dX8_allIsSeen_33 : decode cX8_allIsSeen 33 = .ok (.ireturn, 1) := by decide +kernel
theorem dX8_isSeenAfter_0 : decode cX8_isSeenAfter 0 = .ok (.aload_n 0, 1) := by decide +kernel
theorem dX8_isSeenAfter_1 : decode cX8_isSeenAfter 1 = .ok (.getfield 31, 3) := by decide +kernel
theorem dX8_isSeenAfter_4 : decode cX8_isSeenAfter 4 = .ok (.getfield 210, 3) := by decide +kernel
theorem dX8_isSeenAfter_7 : decode cX8_isSeenAfter 7 = .ok (.astore_n 2, 1) := by decide +kernel
theorem dX8_isSeenAfter_8 : decode cX8_isSeenAfter 8 = .ok (.iconst 0, 1) := by decide +kernel
theorem dX8_isSeenAfter_9 : decode cX8_isSeenAfter 9 = .ok (.istore_n 3, 1) := by decide +kernel
theorem dX8_isSeenAfter_10 : decode cX8_isSeenAfter 10 = .ok (.iload_n 3, 1) := by decide +kernel
theorem dX8_isSeenAfter_11 : decode cX8_isSeenAfter 11 = .ok (.aload_n 2, 1) := by decide +kernel
theorem dX8_isSeenAfter_12 : decode cX8_isSeenAfter 12 = .ok (.getfield 244, 3) := by decide +kernel
theorem dX8_isSeenAfter_15 : decode cX8_isSeenAfter 15 = .ok (.if_icmp .ge 44, 3) := by decide +kernel
theorem dX8_isSeenAfter_18 : decode cX8_isSeenAfter 18 = .ok (.aload_n 2, 1) := by decide +kernel
theorem dX8_isSeenAfter_19 : decode cX8_isSeenAfter 19 = .ok (.getfield 320, 3) := by decide +kernel
theorem dX8_isSeenAfter_22 : decode cX8_isSeenAfter 22 = .ok (.iload_n 3, 1) := by decide +kernel
theorem dX8_isSeenAfter_23 : decode cX8_isSeenAfter 23 = .ok (.iaload, 1) := by decide +kernel
theorem dX8_isSeenAfter_24 : decode cX8_isSeenAfter 24 = .ok (.iload_n 1, 1) := by decide +kernel
theorem dX8_isSeenAfter_25 : decode cX8_isSeenAfter 25 = .ok (.if_icmp .ne 28, 3) := by decide +kernel
theorem dX8_isSeenAfter_28 : decode cX8_isSeenAfter 28 = .ok (.aload_n 0, 1) := by decide +kernel
theorem dX8_isSeenAfter_29 : decode cX8_isSeenAfter 29 = .ok (.getfield 22, 3) := by decide +kernel
theorem dX8_isSeenAfter_32 : decode cX8_isSeenAfter 32 = .ok (.getfield 102, 3) := by decide +kernel
theorem dX8_isSeenAfter_35 : decode cX8_isSeenAfter 35 = .ok (.aload_n 2, 1) := by decide +kernel
theorem dX8_isSeenAfter_36 : decode cX8_isSeenAfter 36 = .ok (.getfield 245, 3) := by decide +kernel
theorem dX8_isSeenAfter_39 : decode cX8_isSeenAfter 39 = .ok (.iload_n 3, 1) := by decide +kernel
theorem dX8_isSeenAfter_40 : decode cX8_isSeenAfter 40 = .ok (.iaload, 1) := by decide +kernel
theorem dX8_isSeenAfter_41 : decode cX8_isSeenAfter 41 = .ok (.iaload, 1) := by decide +kernel
theorem dX8_isSeenAfter_42 : decode cX8_isSeenAfter 42 = .ok (.aload_n 2, 1) := by decide +kernel
theorem dX8_isSeenAfter_43 : decode cX8_isSeenAfter 43 = .ok (.getfield 248, 3) := by decide +kernel
theorem dX8_isSeenAfter_46 : decode cX8_isSeenAfter 46 = .ok (.iload_n 3, 1) := by decide +kernel
theorem dX8_isSeenAfter_47 : decode cX8_isSeenAfter 47 = .ok (.iaload, 1) := by decide +kernel
theorem dX8_isSeenAfter_48 : decode cX8_isSeenAfter 48 = .ok (.if_icmp .eq 5, 3) := by decide +kernel
theorem dX8_isSeenAfter_51 : decode cX8_isSeenAfter 51 = .ok (.iconst 0, 1) := by decide +kernel
theorem dX8_isSeenAfter_52 : decode cX8_isSeenAfter 52 = .ok (.ireturn, 1) := by decide +kernel
theorem dX8_isSeenAfter_53 : decode cX8_isSeenAfter 53 = .ok (.iinc 3 1, 3) := by decide +kernel
theorem dX8_isSeenAfter_56 : decode cX8_isSeenAfter 56 = .ok (.goto (-46), 3) := by decide +kernel
theorem dX8_isSeenAfter_59 : decode cX8_isSeenAfter 59 = .ok (.iconst 1, 1) := by decide +kernel
theorem dX8_isSeenAfter_60 : decode cX8_isSeenAfter 60 = .ok (.ireturn, 1) := by decide +kernel
set_option maxRecDepth 20000 in
theorem ggX8_isPlannable_X8_within : GoodIn wsX8_isPlannable wsX8_within := goodIn_r _ [4] (by decide +kernel) (by decide +kernel)
set_option maxRecDepth 20000 in
theorem gX8_isPlannable_X8_within : GoodIn wsX8_isPlannable (va_wsS RX8 73 yX8_within wsX8_within) := goodIn_app (goodIn_of _ (by decide +kernel)) ggX8_isPlannable_X8_within
set_option maxRecDepth 20000 in
theorem ggX8_isPlannable_X8_isMaster : GoodIn wsX8_isPlannable wsX8_isMaster := goodIn_r _ [8, 9, 10, 1, 2, 3, 4, 11, 12, 13, 14, 15, 16, 17, 18, 19, 20, 21, 22, 23, 24, 25, 26, 27, 28, 29, 30, 31, 32, 33, 34, 35, 36, 37, 38, 39] (by decide +kernel) (by decide +kernel)
set_option maxRecDepth 20000 in
theorem gX8_isPlannable_X8_isMaster : GoodIn wsX8_isPlannable (wsV RX8 85 RX8 yX8_isMaster wsX8_isMaster) := goodIn_app (goodIn_of _ (by decide +kernel)) ggX8_isPlannable_X8_isMaster
theorem dX8_isPlannable_0 : decode cX8_isPlannable 0 = .ok (.iload_n 1, 1) := by decide +kernel
theorem dX8_isPlannable_1 : decode cX8_isPlannable 1 = .ok (.tableswitch 55 0 3 #[31, 33, 41, 48], 31) := by decide +kernel
theorem dX8_isPlannable_32 : decode cX8_isPlannable 32 = .ok (.iconst 1, 1) := by decide +kernel
theorem dX8_isPlannable_33 : decode cX8_isPlannable 33 = .ok (.ireturn, 1) := by decide +kernel
theorem dX8_isPlannable_34 : decode cX8_isPlannable 34 = .ok (.iload_n 2, 1) := by decide +kernel
theorem dX8_isPlannable_35 : decode cX8_isPlannable 35 = .ok (.i2l, 1) := by decide +kernel
theorem dX8_isPlannable_36 : decode cX8_isPlannable 36 = .ok (.bipush 10, 2) := by decide +kernel
theorem dX8_isPlannable_38 : decode cX8_isPlannable 38 = .ok (.invokestatic 73, 3) := by decide +kernel
theorem dX8_isPlannable_41 : decode cX8_isPlannable 41 = .ok (.ireturn, 1) := by decide +kernel
theorem dX8_isPlannable_42 : decode cX8_isPlannable 42 = .ok (.aload_n 0, 1) := by decide +kernel
theorem dX8_isPlannable_43 : decode cX8_isPlannable 43 = .ok (.iload_n 2, 1) := by decide +kernel
theorem dX8_isPlannable_44 : decode cX8_isPlannable 44 = .ok (.i2l, 1) := by decide +kernel
theorem dX8_isPlannable_45 : decode cX8_isPlannable 45 = .ok (.invokevirtual 85, 3) := by decide +kernel
theorem dX8_isPlannable_48 : decode cX8_isPlannable 48 = .ok (.ireturn, 1) := by decide +kernel
theorem dX8_isPlannable_49 : decode cX8_isPlannable 49 = .ok (.aload_n 0, 1) := by decide +kernel
theorem dX8_isPlannable_50 : decode cX8_isPlannable 50 = .ok (.iload_n 2, 1) := by decide +kernel
theorem dX8_isPlannable_51 : decode cX8_isPlannable 51 = .ok (.i2l, 1) := by decide +kernel
theorem dX8_isPlannable_52 : decode cX8_isPlannable 52 = .ok (.invokevirtual 85, 3) := by decide +kernel
theorem dX8_isPlannable_55 : decode cX8_isPlannable 55 = .ok (.ireturn, 1) := by decide +kernel
theorem dX8_isPlannable_56 : decode cX8_isPlannable 56 = .ok (.iconst 0, 1) := by decide +kernel
theorem dX8_isPlannable_57 : decode cX8_isPlannable 57 = .ok (.ireturn, 1) := by decide +kernel
set_option maxRecDepth 20000 in
theorem ggX8_carriesOut_X1_goes : GoodIn wsX8_carriesOut wsX1_goes := goodIn_r _ [7, 8, 9, 10, 11, 12, 13, 14, 15, 16, 17, 18, 19, 20, 6, 21, 22, 23, 24, 25, 26, 27, 28, 29, 30, 31, 32, 33, 34, 35, 36, 37, 38, 39, 40, 41, 42, 43, 44, 45, 46, 47, 48, 49, 50, 51, 52, 53, 54, 55, 56, 57, 58, 59, 60, 61, 62, 63, 64, 65, 66, 67, 68, 69, 70, 71, 72, 73, 74, 75, 76, 77, 78, 79, 80, 81, 82, 83, 84, 85, 86, 87, 105, 106, 107, 108, 109, 110, 111, 112, 113, 114, 115, 116, 117, 118, 119, 120, 121, 122, 123, 124] (by decide +kernel) (by decide +kernel)
set_option maxRecDepth 20000 in
theorem gX8_carriesOut_X1_goes : GoodIn wsX8_carriesOut (wsV RX8 185 RX1 yX1_goes wsX1_goes) := goodIn_app (goodIn_of _ (by decide +kernel)) ggX8_carriesOut_X1_goes
set_option maxRecDepth 20000 in
theorem ggX8_carriesOut_X1_rings : GoodIn wsX8_carriesOut wsX1_rings := goodIn_r _ [91, 12, 92, 105, 106, 107, 108, 109, 110, 111, 112, 113, 114, 115, 116, 117, 118, 119, 120, 121] (by decide +kernel) (by decide +kernel)
set_option maxRecDepth 20000 in
theorem gX8_carriesOut_X1_rings : GoodIn wsX8_carriesOut (wsV RX8 129 RX1 yX1_rings wsX1_rings) := goodIn_app (goodIn_of _ (by decide +kernel)) ggX8_carriesOut_X1_rings
theorem dX8_carriesOut_0 : decode cX8_carriesOut 0 = .ok (.iload_n 1, 1) := by decide +kernel
theorem dX8_carriesOut_1 : decode cX8_carriesOut 1 = .ok (.lookupswitch 50 #[(0, 27), (1, 38)], 27) := by decide +kernel
theorem dX8_carriesOut_28 : decode cX8_carriesOut 28 = .ok (.aload_n 0, 1) := by decide +kernel
theorem dX8_carriesOut_29 : decode cX8_carriesOut 29 = .ok (.getfield 22, 3) := by decide +kernel
theorem dX8_carriesOut_32 : decode cX8_carriesOut 32 = .ok (.iconst 1, 1) := by decide +kernel
theorem dX8_carriesOut_33 : decode cX8_carriesOut 33 = .ok (.invokevirtual 185, 3) := by decide +kernel
theorem dX8_carriesOut_36 : decode cX8_carriesOut 36 = .ok (.goto 34, 3) := by decide +kernel
theorem dX8_carriesOut_39 : decode cX8_carriesOut 39 = .ok (.aload_n 0, 1) := by decide +kernel
theorem dX8_carriesOut_40 : decode cX8_carriesOut 40 = .ok (.getfield 22, 3) := by decide +kernel
theorem dX8_carriesOut_43 : decode cX8_carriesOut 43 = .ok (.iload_n 2, 1) := by decide +kernel
theorem dX8_carriesOut_44 : decode cX8_carriesOut 44 = .ok (.invokevirtual 129, 3) := by decide +kernel
theorem dX8_carriesOut_47 : decode cX8_carriesOut 47 = .ok (.pop, 1) := by decide +kernel
theorem dX8_carriesOut_48 : decode cX8_carriesOut 48 = .ok (.goto 22, 3) := by decide +kernel
theorem dX8_carriesOut_51 : decode cX8_carriesOut 51 = .ok (.aload_n 0, 1) := by decide +kernel
theorem dX8_carriesOut_52 : decode cX8_carriesOut 52 = .ok (.getfield 22, 3) := by decide +kernel
theorem dX8_carriesOut_55 : decode cX8_carriesOut 55 = .ok (.getfield 111, 3) := by decide +kernel
theorem dX8_carriesOut_58 : decode cX8_carriesOut 58 = .ok (.iload_n 2, 1) := by decide +kernel
theorem dX8_carriesOut_59 : decode cX8_carriesOut 59 = .ok (.iload_n 1, 1) := by decide +kernel
theorem dX8_carriesOut_60 : decode cX8_carriesOut 60 = .ok (.iconst 2, 1) := by decide +kernel
theorem dX8_carriesOut_61 : decode cX8_carriesOut 61 = .ok (.if_icmp .ne 7, 3) := by decide +kernel
theorem dX8_carriesOut_64 : decode cX8_carriesOut 64 = .ok (.iconst 1, 1) := by decide +kernel
theorem dX8_carriesOut_65 : decode cX8_carriesOut 65 = .ok (.goto 4, 3) := by decide +kernel
theorem dX8_carriesOut_68 : decode cX8_carriesOut 68 = .ok (.iconst 0, 1) := by decide +kernel
theorem dX8_carriesOut_69 : decode cX8_carriesOut 69 = .ok (.iastore, 1) := by decide +kernel
theorem dX8_carriesOut_70 : decode cX8_carriesOut 70 = .ok (.return_, 1) := by decide +kernel
theorem dX9_init_0 : decode cX9_init 0 = .ok (.aload_n 0, 1) := by decide +kernel
theorem dX9_init_1 : decode cX9_init 1 = .ok (.invokespecial 1, 3) := by decide +kernel
theorem dX9_init_4 : decode cX9_init 4 = .ok (.aload_n 0, 1) := by decide +kernel
theorem dX9_init_5 : decode cX9_init 5 = .ok (.iconst 0, 1) := by decide +kernel
theorem dX9_init_6 : decode cX9_init 6 = .ok (.putfield 7, 3) := by decide +kernel
theorem dX9_init_9 : decode cX9_init 9 = .ok (.aload_n 0, 1) := by decide +kernel
theorem dX9_init_10 : decode cX9_init 10 = .ok (.iconst 0, 1) := by decide +kernel
theorem dX9_init_11 : decode cX9_init 11 = .ok (.putfield 13, 3) := by decide +kernel
theorem dX9_init_14 : decode cX9_init 14 = .ok (.aload_n 0, 1) := by decide +kernel
theorem dX9_init_15 : decode cX9_init 15 = .ok (.iconst 0, 1) := by decide +kernel
theorem dX9_init_16 : decode cX9_init 16 = .ok (.putfield 16, 3) := by decide +kernel
theorem dX9_init_19 : decode cX9_init 19 = .ok (.aload_n 0, 1) := by decide +kernel
theorem dX9_init_20 : decode cX9_init 20 = .ok (.iconst 0, 1) := by decide +kernel
theorem dX9_init_21 : decode cX9_init 21 = .ok (.putfield 19, 3) := by decide +kernel
theorem dX9_init_24 : decode cX9_init 24 = .ok (.aload_n 0, 1) := by decide +kernel
theorem dX9_init_25 : decode cX9_init 25 = .ok (.iconst 0, 1) := by decide +kernel
theorem dX9_init_26 : decode cX9_init 26 = .ok (.putfield 22, 3) := by decide +kernel
theorem dX9_init_29 : decode cX9_init 29 = .ok (.aload_n 0, 1) := by decide +kernel
theorem dX9_init_30 : decode cX9_init 30 = .ok (.bipush 6, 2) := by decide +kernel
theorem dX9_init_32 : decode cX9_init 32 = .ok (.newarray .int, 2) := by decide +kernel
theorem dX9_init_34 : decode cX9_init 34 = .ok (.putfield 25, 3) := by decide +kernel
theorem dX9_init_37 : decode cX9_init 37 = .ok (.aload_n 0, 1) := by decide +kernel
theorem dX9_init_38 : decode cX9_init 38 = .ok (.bipush 6, 2) := by decide +kernel
theorem dX9_init_40 : decode cX9_init 40 = .ok (.newarray .int, 2) := by decide +kernel
theorem dX9_init_42 : decode cX9_init 42 = .ok (.putfield 29, 3) := by decide +kernel
theorem dX9_init_45 : decode cX9_init 45 = .ok (.aload_n 0, 1) := by decide +kernel
theorem dX9_init_46 : decode cX9_init 46 = .ok (.bipush 6, 2) := by decide +kernel
theorem dX9_init_48 : decode cX9_init 48 = .ok (.newarray .int, 2) := by decide +kernel
theorem dX9_init_50 : decode cX9_init 50 = .ok (.putfield 32, 3) := by decide +kernel
theorem dX9_init_53 : decode cX9_init 53 = .ok (.aload_n 0, 1) := by decide +kernel
theorem dX9_init_54 : decode cX9_init 54 = .ok (.bipush 6, 2) := by decide +kernel
theorem dX9_init_56 : decode cX9_init 56 = .ok (.newarray .int, 2) := by decide +kernel
theorem dX9_init_58 : decode cX9_init 58 = .ok (.putfield 35, 3) := by decide +kernel
theorem dX9_init_61 : decode cX9_init 61 = .ok (.aload_n 0, 1) := by decide +kernel
theorem dX9_init_62 : decode cX9_init 62 = .ok (.bipush 6, 2) := by decide +kernel
theorem dX9_init_64 : decode cX9_init 64 = .ok (.newarray .int, 2) := by decide +kernel
theorem dX9_init_66 : decode cX9_init 66 = .ok (.putfield 38, 3) := by decide +kernel
theorem dX9_init_69 : decode cX9_init 69 = .ok (.aload_n 0, 1) := by decide +kernel
theorem dX9_init_70 : decode cX9_init 70 = .ok (.bipush 6, 2) := by decide +kernel
theorem dX9_init_72 : decode cX9_init 72 = .ok (.newarray .int, 2) := by decide +kernel
theorem dX9_init_74 : decode cX9_init 74 = .ok (.putfield 41, 3) := by decide +kernel
theorem dX9_init_77 : decode cX9_init 77 = .ok (.aload_n 0, 1) := by decide +kernel
theorem dX9_init_78 : decode cX9_init 78 = .ok (.bipush 24, 2) := by decide +kernel
theorem dX9_init_80 : decode cX9_init 80 = .ok (.newarray .int, 2) := by decide +kernel
theorem dX9_init_82 : decode cX9_init 82 = .ok (.putfield 44, 3) := by decide +kernel
theorem dX9_init_85 : decode cX9_init 85 = .ok (.aload_n 0, 1) := by decide +kernel
theorem dX9_init_86 : decode cX9_init 86 = .ok (.bipush 10, 2) := by decide +kernel
theorem dX9_init_88 : decode cX9_init 88 = .ok (.newarray .int, 2) := by decide +kernel
theorem dX9_init_90 : decode cX9_init 90 = .ok (.dup, 1) := by decide +kernel
theorem dX9_init_91 : decode cX9_init 91 = .ok (.iconst 0, 1) := by decide +kernel
theorem dX9_init_92 : decode cX9_init 92 = .ok (.iconst 0, 1) := by decide +kernel
theorem dX9_init_93 : decode cX9_init 93 = .ok (.iastore, 1) := by decide +kernel
theorem dX9_init_94 : decode cX9_init 94 = .ok (.dup, 1) := by decide +kernel
theorem dX9_init_95 : decode cX9_init 95 = .ok (.iconst 1, 1) := by decide +kernel
theorem dX9_init_96 : decode cX9_init 96 = .ok (.iconst 1, 1) := by decide +kernel
theorem dX9_init_97 : decode cX9_init 97 = .ok (.iastore, 1) := by decide +kernel
theorem dX9_init_98 : decode cX9_init 98 = .ok (.dup, 1) := by decide +kernel
theorem dX9_init_99 : decode cX9_init 99 = .ok (.iconst 2, 1) := by decide +kernel
theorem dX9_init_100 : decode cX9_init 100 = .ok (.iconst 2, 1) := by decide +kernel
theorem dX9_init_101 : decode cX9_init 101 = .ok (.iastore, 1) := by decide +kernel
theorem dX9_init_102 : decode cX9_init 102 = .ok (.dup, 1) := by decide +kernel
theorem dX9_init_103 : decode cX9_init 103 = .ok (.iconst 3, 1) := by decide +kernel
theorem dX9_init_104 : decode cX9_init 104 = .ok (.iconst 3, 1) := by decide +kernel
theorem dX9_init_105 : decode cX9_init 105 = .ok (.iastore, 1) := by decide +kernel
theorem dX9_init_106 : decode cX9_init 106 = .ok (.dup, 1) := by decide +kernel
theorem dX9_init_107 : decode cX9_init 107 = .ok (.iconst 4, 1) := by decide +kernel
theorem dX9_init_108 : decode cX9_init 108 = .ok (.iconst 4, 1) := by decide +kernel
theorem dX9_init_109 : decode cX9_init 109 = .ok (.iastore, 1) := by decide +kernel
theorem dX9_init_110 : decode cX9_init 110 = .ok (.dup, 1) := by decide +kernel
theorem dX9_init_111 : decode cX9_init 111 = .ok (.iconst 5, 1) := by decide +kernel
theorem dX9_init_112 : decode cX9_init 112 = .ok (.iconst 5, 1) := by decide +kernel
theorem dX9_init_113 : decode cX9_init 113 = .ok (.iastore, 1) := by decide +kernel
theorem dX9_init_114 : decode cX9_init 114 = .ok (.dup, 1) := by decide +kernel
theorem dX9_init_115 : decode cX9_init 115 = .ok (.bipush 6, 2) := by decide +kernel
theorem dX9_init_117 : decode cX9_init 117 = .ok (.bipush 6, 2) := by decide +kernel
theorem dX9_init_119 : decode cX9_init 119 = .ok (.iastore, 1) := by decide +kernel
theorem dX9_init_120 : decode cX9_init 120 = .ok (.dup, 1) := by decide +kernel
theorem dX9_init_121 : decode cX9_init 121 = .ok (.bipush 7, 2) := by decide +kernel
theorem dX9_init_123 : decode cX9_init 123 = .ok (.bipush 7, 2) := by decide +kernel
theorem dX9_init_125 : decode cX9_init 125 = .ok (.iastore, 1) := by decide +kernel
theorem dX9_init_126 : decode cX9_init 126 = .ok (.dup, 1) := by decide +kernel
theorem dX9_init_127 : decode cX9_init 127 = .ok (.bipush 8, 2) := by decide +kernel
theorem dX9_init_129 : decode cX9_init 129 = .ok (.bipush 8, 2) := by decide +kernel
theorem dX9_init_131 : decode cX9_init 131 = .ok (.iastore, 1) := by decide +kernel
theorem dX9_init_132 : decode cX9_init 132 = .ok (.dup, 1) := by decide +kernel
theorem dX9_init_133 : decode cX9_init 133 = .ok (.bipush 9, 2) := by decide +kernel
theorem dX9_init_135 : decode cX9_init 135 = .ok (.bipush 9, 2) := by decide +kernel
theorem dX9_init_137 : decode cX9_init 137 = .ok (.iastore, 1) := by decide +kernel
theorem dX9_init_138 : decode cX9_init 138 = .ok (.putfield 47, 3) := by decide +kernel
theorem dX9_init_141 : decode cX9_init 141 = .ok (.aload_n 0, 1) := by decide +kernel
theorem dX9_init_142 : decode cX9_init 142 = .ok (.iconst 0, 1) := by decide +kernel
theorem dX9_init_143 : decode cX9_init 143 = .ok (.putfield 50, 3) := by decide +kernel
theorem dX9_init_146 : decode cX9_init 146 = .ok (.aload_n 0, 1) := by decide +kernel
theorem dX9_init_147 : decode cX9_init 147 = .ok (.iconst (-1), 1) := by decide +kernel
theorem dX9_init_148 : decode cX9_init 148 = .ok (.putfield 53, 3) := by decide +kernel
theorem dX9_init_151 : decode cX9_init 151 = .ok (.aload_n 0, 1) := by decide +kernel
theorem dX9_init_152 : decode cX9_init 152 = .ok (.iconst 0, 1) := by decide +kernel
theorem dX9_init_153 : decode cX9_init 153 = .ok (.putfield 56, 3) := by decide +kernel
theorem dX9_init_156 : decode cX9_init 156 = .ok (.aload_n 0, 1) := by decide +kernel
theorem dX9_init_157 : decode cX9_init 157 = .ok (.iconst 0, 1) := by decide +kernel
theorem dX9_init_158 : decode cX9_init 158 = .ok (.putfield 59, 3) := by decide +kernel
theorem dX9_init_161 : decode cX9_init 161 = .ok (.aload_n 0, 1) := by decide +kernel
theorem dX9_init_162 : decode cX9_init 162 = .ok (.iconst 0, 1) := by decide +kernel
theorem dX9_init_163 : decode cX9_init 163 = .ok (.putfield 62, 3) := by decide +kernel
theorem dX9_init_166 : decode cX9_init 166 = .ok (.aload_n 0, 1) := by decide +kernel
theorem dX9_init_167 : decode cX9_init 167 = .ok (.bipush 100, 2) := by decide +kernel
theorem dX9_init_169 : decode cX9_init 169 = .ok (.newarray .int, 2) := by decide +kernel
theorem dX9_init_171 : decode cX9_init 171 = .ok (.putfield 65, 3) := by decide +kernel
theorem dX9_init_174 : decode cX9_init 174 = .ok (.aload_n 0, 1) := by decide +kernel
theorem dX9_init_175 : decode cX9_init 175 = .ok (.bipush 6, 2) := by decide +kernel
theorem dX9_init_177 : decode cX9_init 177 = .ok (.newarray .int, 2) := by decide +kernel
theorem dX9_init_179 : decode cX9_init 179 = .ok (.putfield 68, 3) := by decide +kernel
theorem dX9_init_182 : decode cX9_init 182 = .ok (.aload_n 0, 1) := by decide +kernel
theorem dX9_init_183 : decode cX9_init 183 = .ok (.bipush 60, 2) := by decide +kernel
theorem dX9_init_185 : decode cX9_init 185 = .ok (.newarray .int, 2) := by decide +kernel
theorem dX9_init_187 : decode cX9_init 187 = .ok (.putfield 71, 3) := by decide +kernel
theorem dX9_init_190 : decode cX9_init 190 = .ok (.aload_n 0, 1) := by decide +kernel
theorem dX9_init_191 : decode cX9_init 191 = .ok (.bipush 60, 2) := by decide +kernel
theorem dX9_init_193 : decode cX9_init 193 = .ok (.newarray .int, 2) := by decide +kernel
theorem dX9_init_195 : decode cX9_init 195 = .ok (.putfield 74, 3) := by decide +kernel
theorem dX9_init_198 : decode cX9_init 198 = .ok (.aload_n 0, 1) := by decide +kernel
theorem dX9_init_199 : decode cX9_init 199 = .ok (.bipush 60, 2) := by decide +kernel
theorem dX9_init_201 : decode cX9_init 201 = .ok (.newarray .int, 2) := by decide +kernel
theorem dX9_init_203 : decode cX9_init 203 = .ok (.putfield 77, 3) := by decide +kernel
theorem dX9_init_206 : decode cX9_init 206 = .ok (.aload_n 0, 1) := by decide +kernel
theorem dX9_init_207 : decode cX9_init 207 = .ok (.bipush 60, 2) := by decide +kernel
theorem dX9_init_209 : decode cX9_init 209 = .ok (.newarray .int, 2) := by decide +kernel
theorem dX9_init_211 : decode cX9_init 211 = .ok (.putfield 80, 3) := by decide +kernel
theorem dX9_init_214 : decode cX9_init 214 = .ok (.aload_n 0, 1) := by decide +kernel
theorem dX9_init_215 : decode cX9_init 215 = .ok (.sipush 600, 3) := by decide +kernel
theorem dX9_init_218 : decode cX9_init 218 = .ok (.newarray .int, 2) := by decide +kernel
theorem dX9_init_220 : decode cX9_init 220 = .ok (.putfield 83, 3) := by decide +kernel
theorem dX9_init_223 : decode cX9_init 223 = .ok (.aload_n 0, 1) := by decide +kernel
theorem dX9_init_224 : decode cX9_init 224 = .ok (.bipush 101, 2) := by decide +kernel
theorem dX9_init_226 : decode cX9_init 226 = .ok (.newarray .int, 2) := by decide +kernel
theorem dX9_init_228 : decode cX9_init 228 = .ok (.putfield 86, 3) := by decide +kernel
theorem dX9_init_231 : decode cX9_init 231 = .ok (.aload_n 0, 1) := by decide +kernel
theorem dX9_init_232 : decode cX9_init 232 = .ok (.iconst 0, 1) := by decide +kernel
theorem dX9_init_233 : decode cX9_init 233 = .ok (.putfield 89, 3) := by decide +kernel
theorem dX9_init_236 : decode cX9_init 236 = .ok (.aload_n 0, 1) := by decide +kernel
theorem dX9_init_237 : decode cX9_init 237 = .ok (.iconst 0, 1) := by decide +kernel
theorem dX9_init_238 : decode cX9_init 238 = .ok (.putfield 92, 3) := by decide +kernel
theorem dX9_init_241 : decode cX9_init 241 = .ok (.aload_n 0, 1) := by decide +kernel
theorem dX9_init_242 : decode cX9_init 242 = .ok (.iconst 0, 1) := by decide +kernel
theorem dX9_init_243 : decode cX9_init 243 = .ok (.putfield 95, 3) := by decide +kernel
theorem dX9_init_246 : decode cX9_init 246 = .ok (.aload_n 0, 1) := by decide +kernel
theorem dX9_init_247 : decode cX9_init 247 = .ok (.bipush 12, 2) := by decide +kernel
theorem dX9_init_249 : decode cX9_init 249 = .ok (.newarray .int, 2) := by decide +kernel
theorem dX9_init_251 : decode cX9_init 251 = .ok (.dup, 1) := by decide +kernel
theorem dX9_init_252 : decode cX9_init 252 = .ok (.iconst 0, 1) := by decide +kernel
theorem dX9_init_253 : decode cX9_init 253 = .ok (.bipush 115, 2) := by decide +kernel
theorem dX9_init_255 : decode cX9_init 255 = .ok (.iastore, 1) := by decide +kernel
theorem dX9_init_256 : decode cX9_init 256 = .ok (.dup, 1) := by decide +kernel
theorem dX9_init_257 : decode cX9_init 257 = .ok (.iconst 1, 1) := by decide +kernel
theorem dX9_init_258 : decode cX9_init 258 = .ok (.bipush 108, 2) := by decide +kernel
theorem dX9_init_260 : decode cX9_init 260 = .ok (.iastore, 1) := by decide +kernel
theorem dX9_init_261 : decode cX9_init 261 = .ok (.dup, 1) := by decide +kernel
theorem dX9_init_262 : decode cX9_init 262 = .ok (.iconst 2, 1) := by decide +kernel
theorem dX9_init_263 : decode cX9_init 263 = .ok (.bipush 111, 2) := by decide +kernel
theorem dX9_init_265 : decode cX9_init 265 = .ok (.iastore, 1) := by decide +kernel
theorem dX9_init_266 : decode cX9_init 266 = .ok (.dup, 1) := by decide +kernel
theorem dX9_init_267 : decode cX9_init 267 = .ok (.iconst 3, 1) := by decide +kernel
theorem dX9_init_268 : decode cX9_init 268 = .ok (.bipush 119, 2) := by decide +kernel
theorem dX9_init_270 : decode cX9_init 270 = .ok (.iastore, 1) := by decide +kernel
theorem dX9_init_271 : decode cX9_init 271 = .ok (.dup, 1) := by decide +kernel
theorem dX9_init_272 : decode cX9_init 272 = .ok (.iconst 4, 1) := by decide +kernel
theorem dX9_init_273 : decode cX9_init 273 = .ok (.bipush 107, 2) := by decide +kernel
theorem dX9_init_275 : decode cX9_init 275 = .ok (.iastore, 1) := by decide +kernel
theorem dX9_init_276 : decode cX9_init 276 = .ok (.dup, 1) := by decide +kernel
theorem dX9_init_277 : decode cX9_init 277 = .ok (.iconst 5, 1) := by decide +kernel
theorem dX9_init_278 : decode cX9_init 278 = .ok (.bipush 101, 2) := by decide +kernel
theorem dX9_init_280 : decode cX9_init 280 = .ok (.iastore, 1) := by decide +kernel
theorem dX9_init_281 : decode cX9_init 281 = .ok (.dup, 1) := by decide +kernel
theorem dX9_init_282 : decode cX9_init 282 = .ok (.bipush 6, 2) := by decide +kernel
theorem dX9_init_284 : decode cX9_init 284 = .ok (.bipush 101, 2) := by decide +kernel
theorem dX9_init_286 : decode cX9_init 286 = .ok (.iastore, 1) := by decide +kernel
theorem dX9_init_287 : decode cX9_init 287 = .ok (.dup, 1) := by decide +kernel
theorem dX9_init_288 : decode cX9_init 288 = .ok (.bipush 7, 2) := by decide +kernel
theorem dX9_init_290 : decode cX9_init 290 = .ok (.bipush 110, 2) := by decide +kernel
theorem dX9_init_292 : decode cX9_init 292 = .ok (.iastore, 1) := by decide +kernel
theorem dX9_init_293 : decode cX9_init 293 = .ok (.dup, 1) := by decide +kernel
theorem dX9_init_294 : decode cX9_init 294 = .ok (.bipush 8, 2) := by decide +kernel
theorem dX9_init_296 : decode cX9_init 296 = .ok (.bipush 114, 2) := by decide +kernel
theorem dX9_init_298 : decode cX9_init 298 = .ok (.iastore, 1) := by decide +kernel
theorem dX9_init_299 : decode cX9_init 299 = .ok (.dup, 1) := by decide +kernel
theorem dX9_init_300 : decode cX9_init 300 = .ok (.bipush 9, 2) := by decide +kernel
theorem dX9_init_302 : decode cX9_init 302 = .ok (.bipush 101, 2) := by decide +kernel
theorem dX9_init_304 : decode cX9_init 304 = .ok (.iastore, 1) := by decide +kernel
theorem dX9_init_305 : decode cX9_init 305 = .ok (.dup, 1) := by decide +kernel
theorem dX9_init_306 : decode cX9_init 306 = .ok (.bipush 10, 2) := by decide +kernel
theorem dX9_init_308 : decode cX9_init 308 = .ok (.bipush 115, 2) := by decide +kernel
theorem dX9_init_310 : decode cX9_init 310 = .ok (.iastore, 1) := by decide +kernel
theorem dX9_init_311 : decode cX9_init 311 = .ok (.dup, 1) := by decide +kernel
theorem dX9_init_312 : decode cX9_init 312 = .ok (.bipush 11, 2) := by decide +kernel
theorem dX9_init_314 : decode cX9_init 314 = .ok (.bipush 116, 2) := by decide +kernel
theorem dX9_init_316 : decode cX9_init 316 = .ok (.iastore, 1) := by decide +kernel
theorem dX9_init_317 : decode cX9_init 317 = .ok (.putfield 98, 3) := by decide +kernel
theorem dX9_init_320 : decode cX9_init 320 = .ok (.aload_n 0, 1) := by decide +kernel
theorem dX9_init_321 : decode cX9_init 321 = .ok (.bipush 100, 2) := by decide +kernel
theorem dX9_init_323 : decode cX9_init 323 = .ok (.newarray .boolean, 2) := by decide +kernel
theorem dX9_init_325 : decode cX9_init 325 = .ok (.putfield 101, 3) := by decide +kernel
theorem dX9_init_328 : decode cX9_init 328 = .ok (.aload_n 0, 1) := by decide +kernel
theorem dX9_init_329 : decode cX9_init 329 = .ok (.sipush 9999, 3) := by decide +kernel
theorem dX9_init_332 : decode cX9_init 332 = .ok (.putfield 105, 3) := by decide +kernel
theorem dX9_init_335 : decode cX9_init 335 = .ok (.aload_n 0, 1) := by decide +kernel
theorem dX9_init_336 : decode cX9_init 336 = .ok (.ldc 108, 2) := by decide +kernel
theorem dX9_init_338 : decode cX9_init 338 = .ok (.putfield 109, 3) := by decide +kernel
theorem dX9_init_341 : decode cX9_init 341 = .ok (.aload_n 0, 1) := by decide +kernel
theorem dX9_init_342 : decode cX9_init 342 = .ok (.iconst 0, 1) := by decide +kernel
theorem dX9_init_343 : decode cX9_init 343 = .ok (.putfield 112, 3) := by decide +kernel
theorem dX9_init_346 : decode cX9_init 346 = .ok (.aload_n 0, 1) := by decide +kernel
theorem dX9_init_347 : decode cX9_init 347 = .ok (.iconst 0, 1) := by decide +kernel
theorem dX9_init_348 : decode cX9_init 348 = .ok (.putfield 115, 3) := by decide +kernel
theorem dX9_init_351 : decode cX9_init 351 = .ok (.aload_n 0, 1) := by decide +kernel
theorem dX9_init_352 : decode cX9_init 352 = .ok (.iconst 0, 1) := by decide +kernel
theorem dX9_init_353 : decode cX9_init 353 = .ok (.putfield 118, 3) := by decide +kernel
theorem dX9_init_356 : decode cX9_init 356 = .ok (.aload_n 0, 1) := by decide +kernel
theorem dX9_init_357 : decode cX9_init 357 = .ok (.iconst 0, 1) := by decide +kernel
theorem dX9_init_358 : decode cX9_init 358 = .ok (.putfield 121, 3) := by decide +kernel
theorem dX9_init_361 : decode cX9_init 361 = .ok (.aload_n 0, 1) := by decide +kernel
theorem dX9_init_362 : decode cX9_init 362 = .ok (.bipush 6, 2) := by decide +kernel
theorem dX9_init_364 : decode cX9_init 364 = .ok (.newarray .int, 2) := by decide +kernel
theorem dX9_init_366 : decode cX9_init 366 = .ok (.putfield 124, 3) := by decide +kernel
theorem dX9_init_369 : decode cX9_init 369 = .ok (.aload_n 0, 1) := by decide +kernel
theorem dX9_init_370 : decode cX9_init 370 = .ok (.bipush 6, 2) := by decide +kernel
theorem dX9_init_372 : decode cX9_init 372 = .ok (.newarray .int, 2) := by decide +kernel
theorem dX9_init_374 : decode cX9_init 374 = .ok (.putfield 127, 3) := by decide +kernel
theorem dX9_init_377 : decode cX9_init 377 = .ok (.aload_n 0, 1) := by decide +kernel
theorem dX9_init_378 : decode cX9_init 378 = .ok (.bipush 6, 2) := by decide +kernel
theorem dX9_init_380 : decode cX9_init 380 = .ok (.newarray .int, 2) := by decide +kernel
theorem dX9_init_382 : decode cX9_init 382 = .ok (.putfield 130, 3) := by decide +kernel
theorem dX9_init_385 : decode cX9_init 385 = .ok (.aload_n 0, 1) := by decide +kernel
theorem dX9_init_386 : decode cX9_init 386 = .ok (.bipush 6, 2) := by decide +kernel
theorem dX9_init_388 : decode cX9_init 388 = .ok (.newarray .int, 2) := by decide +kernel
theorem dX9_init_390 : decode cX9_init 390 = .ok (.putfield 133, 3) := by decide +kernel
theorem dX9_init_393 : decode cX9_init 393 = .ok (.aload_n 0, 1) := by decide +kernel
theorem dX9_init_394 : decode cX9_init 394 = .ok (.sipush 704, 3) := by decide +kernel
theorem dX9_init_397 : decode cX9_init 397 = .ok (.newarray .int, 2) := by decide +kernel
theorem dX9_init_399 : decode cX9_init 399 = .ok (.putfield 136, 3) := by decide +kernel
theorem dX9_init_402 : decode cX9_init 402 = .ok (.aload_n 0, 1) := by decide +kernel
theorem dX9_init_403 : decode cX9_init 403 = .ok (.sipush 704, 3) := by decide +kernel
theorem dX9_init_406 : decode cX9_init 406 = .ok (.newarray .int, 2) := by decide +kernel
theorem dX9_init_408 : decode cX9_init 408 = .ok (.putfield 139, 3) := by decide +kernel
theorem dX9_init_411 : decode cX9_init 411 = .ok (.aload_n 0, 1) := by decide +kernel
theorem dX9_init_412 : decode cX9_init 412 = .ok (.bipush 60, 2) := by decide +kernel
theorem dX9_init_414 : decode cX9_init 414 = .ok (.newarray .int, 2) := by decide +kernel
theorem dX9_init_416 : decode cX9_init 416 = .ok (.putfield 142, 3) := by decide +kernel
theorem dX9_init_419 : decode cX9_init 419 = .ok (.aload_n 0, 1) := by decide +kernel
theorem dX9_init_420 : decode cX9_init 420 = .ok (.iconst 0, 1) := by decide +kernel
theorem dX9_init_421 : decode cX9_init 421 = .ok (.putfield 145, 3) := by decide +kernel
theorem dX9_init_424 : decode cX9_init 424 = .ok (.aload_n 0, 1) := by decide +kernel
theorem dX9_init_425 : decode cX9_init 425 = .ok (.iconst 5, 1) := by decide +kernel
theorem dX9_init_426 : decode cX9_init 426 = .ok (.newarray .int, 2) := by decide +kernel
theorem dX9_init_428 : decode cX9_init 428 = .ok (.putfield 148, 3) := by decide +kernel
theorem dX9_init_431 : decode cX9_init 431 = .ok (.aload_n 0, 1) := by decide +kernel
theorem dX9_init_432 : decode cX9_init 432 = .ok (.iconst 5, 1) := by decide +kernel
theorem dX9_init_433 : decode cX9_init 433 = .ok (.newarray .int, 2) := by decide +kernel
theorem dX9_init_435 : decode cX9_init 435 = .ok (.putfield 151, 3) := by decide +kernel
theorem dX9_init_438 : decode cX9_init 438 = .ok (.aload_n 0, 1) := by decide +kernel
theorem dX9_init_439 : decode cX9_init 439 = .ok (.iconst 5, 1) := by decide +kernel
theorem dX9_init_440 : decode cX9_init 440 = .ok (.newarray .int, 2) := by decide +kernel
theorem dX9_init_442 : decode cX9_init 442 = .ok (.putfield 154, 3) := by decide +kernel
theorem dX9_init_445 : decode cX9_init 445 = .ok (.aload_n 0, 1) := by decide +kernel
theorem dX9_init_446 : decode cX9_init 446 = .ok (.iconst 0, 1) := by decide +kernel
theorem dX9_init_447 : decode cX9_init 447 = .ok (.putfield 157, 3) := by decide +kernel
theorem dX9_init_450 : decode cX9_init 450 = .ok (.aload_n 0, 1) := by decide +kernel
theorem dX9_init_451 : decode cX9_init 451 = .ok (.iconst 0, 1) := by decide +kernel
theorem dX9_init_452 : decode cX9_init 452 = .ok (.putfield 160, 3) := by decide +kernel
theorem dX9_init_455 : decode cX9_init 455 = .ok (.aload_n 0, 1) := by decide +kernel
theorem dX9_init_456 : decode cX9_init 456 = .ok (.bipush 10, 2) := by decide +kernel
theorem dX9_init_458 : decode cX9_init 458 = .ok (.newarray .int, 2) := by decide +kernel
theorem dX9_init_460 : decode cX9_init 460 = .ok (.putfield 163, 3) := by decide +kernel
theorem dX9_init_463 : decode cX9_init 463 = .ok (.aload_n 0, 1) := by decide +kernel
theorem dX9_init_464 : decode cX9_init 464 = .ok (.bipush 10, 2) := by decide +kernel
theorem dX9_init_466 : decode cX9_init 466 = .ok (.newarray .int, 2) := by decide +kernel
theorem dX9_init_468 : decode cX9_init 468 = .ok (.putfield 166, 3) := by decide +kernel
theorem dX9_init_471 : decode cX9_init 471 = .ok (.aload_n 0, 1) := by decide +kernel
theorem dX9_init_472 : decode cX9_init 472 = .ok (.bipush 8, 2) := by decide +kernel
theorem dX9_init_474 : decode cX9_init 474 = .ok (.newarray .int, 2) := by decide +kernel
theorem dX9_init_476 : decode cX9_init 476 = .ok (.putfield 169, 3) := by decide +kernel
theorem dX9_init_479 : decode cX9_init 479 = .ok (.aload_n 0, 1) := by decide +kernel
theorem dX9_init_480 : decode cX9_init 480 = .ok (.bipush 8, 2) := by decide +kernel
theorem dX9_init_482 : decode cX9_init 482 = .ok (.newarray .int, 2) := by decide +kernel
theorem dX9_init_484 : decode cX9_init 484 = .ok (.putfield 172, 3) := by decide +kernel
theorem dX9_init_487 : decode cX9_init 487 = .ok (.aload_n 0, 1) := by decide +kernel
theorem dX9_init_488 : decode cX9_init 488 = .ok (.iconst 0, 1) := by decide +kernel
theorem dX9_init_489 : decode cX9_init 489 = .ok (.putfield 175, 3) := by decide +kernel
theorem dX9_init_492 : decode cX9_init 492 = .ok (.aload_n 0, 1) := by decide +kernel
theorem dX9_init_493 : decode cX9_init 493 = .ok (.iconst (-1), 1) := by decide +kernel
theorem dX9_init_494 : decode cX9_init 494 = .ok (.putfield 179, 3) := by decide +kernel
theorem dX9_init_497 : decode cX9_init 497 = .ok (.aload_n 0, 1) := by decide +kernel
theorem dX9_init_498 : decode cX9_init 498 = .ok (.iconst 0, 1) := by decide +kernel
theorem dX9_init_499 : decode cX9_init 499 = .ok (.putfield 182, 3) := by decide +kernel
theorem dX9_init_502 : decode cX9_init 502 = .ok (.aload_n 0, 1) := by decide +kernel
theorem dX9_init_503 : decode cX9_init 503 = .ok (.iconst 0, 1) := by decide +kernel
theorem dX9_init_504 : decode cX9_init 504 = .ok (.putfield 185, 3) := by decide +kernel
theorem dX9_init_507 : decode cX9_init 507 = .ok (.aload_n 0, 1) := by decide +kernel
theorem dX9_init_508 : decode cX9_init 508 = .ok (.iconst 0, 1) := by decide +kernel
theorem dX9_init_509 : decode cX9_init 509 = .ok (.putfield 188, 3) := by decide +kernel
theorem dX9_init_512 : decode cX9_init 512 = .ok (.aload_n 0, 1) := by decide +kernel
theorem dX9_init_513 : decode cX9_init 513 = .ok (.iconst 0, 1) := by decide +kernel
theorem dX9_init_514 : decode cX9_init 514 = .ok (.putfield 191, 3) := by decide +kernel
theorem dX9_init_517 : decode cX9_init 517 = .ok (.aload_n 0, 1) := by decide +kernel
theorem dX9_init_518 : decode cX9_init 518 = .ok (.iconst 0, 1) := by decide +kernel
theorem dX9_init_519 : decode cX9_init 519 = .ok (.putfield 194, 3) := by decide +kernel
theorem dX9_init_522 : decode cX9_init 522 = .ok (.aload_n 0, 1) := by decide +kernel
theorem dX9_init_523 : decode cX9_init 523 = .ok (.iconst 0, 1) := by decide +kernel
theorem dX9_init_524 : decode cX9_init 524 = .ok (.putfield 197, 3) := by decide +kernel
theorem dX9_init_527 : decode cX9_init 527 = .ok (.aload_n 0, 1) := by decide +kernel
theorem dX9_init_528 : decode cX9_init 528 = .ok (.iconst 0, 1) := by decide +kernel
theorem dX9_init_529 : decode cX9_init 529 = .ok (.putfield 200, 3) := by decide +kernel
theorem dX9_init_532 : decode cX9_init 532 = .ok (.aload_n 0, 1) := by decide +kernel
theorem dX9_init_533 : decode cX9_init 533 = .ok (.iconst 0, 1) := by decide +kernel
theorem dX9_init_534 : decode cX9_init 534 = .ok (.putfield 203, 3) := by decide +kernel
theorem dX9_init_537 : decode cX9_init 537 = .ok (.aload_n 0, 1) := by decide +kernel
theorem dX9_init_538 : decode cX9_init 538 = .ok (.bipush 6, 2) := by decide +kernel
theorem dX9_init_540 : decode cX9_init 540 = .ok (.newarray .int, 2) := by decide +kernel
theorem dX9_init_542 : decode cX9_init 542 = .ok (.putfield 206, 3) := by decide +kernel
theorem dX9_init_545 : decode cX9_init 545 = .ok (.aload_n 0, 1) := by decide +kernel
theorem dX9_init_546 : decode cX9_init 546 = .ok (.bipush 6, 2) := by decide +kernel
theorem dX9_init_548 : decode cX9_init 548 = .ok (.newarray .int, 2) := by decide +kernel
theorem dX9_init_550 : decode cX9_init 550 = .ok (.putfield 209, 3) := by decide +kernel
theorem dX9_init_553 : decode cX9_init 553 = .ok (.aload_n 0, 1) := by decide +kernel
theorem dX9_init_554 : decode cX9_init 554 = .ok (.bipush 6, 2) := by decide +kernel
theorem dX9_init_556 : decode cX9_init 556 = .ok (.newarray .int, 2) := by decide +kernel
theorem dX9_init_558 : decode cX9_init 558 = .ok (.putfield 212, 3) := by decide +kernel
theorem dX9_init_561 : decode cX9_init 561 = .ok (.aload_n 0, 1) := by decide +kernel
theorem dX9_init_562 : decode cX9_init 562 = .ok (.bipush 6, 2) := by decide +kernel
theorem dX9_init_564 : decode cX9_init 564 = .ok (.newarray .int, 2) := by decide +kernel
theorem dX9_init_566 : decode cX9_init 566 = .ok (.putfield 215, 3) := by decide +kernel
theorem dX9_init_569 : decode cX9_init 569 = .ok (.aload_n 0, 1) := by decide +kernel
theorem dX9_init_570 : decode cX9_init 570 = .ok (.bipush 6, 2) := by decide +kernel
theorem dX9_init_572 : decode cX9_init 572 = .ok (.newarray .int, 2) := by decide +kernel
theorem dX9_init_574 : decode cX9_init 574 = .ok (.putfield 218, 3) := by decide +kernel
theorem dX9_init_577 : decode cX9_init 577 = .ok (.aload_n 0, 1) := by decide +kernel
theorem dX9_init_578 : decode cX9_init 578 = .ok (.bipush 6, 2) := by decide +kernel
theorem dX9_init_580 : decode cX9_init 580 = .ok (.newarray .int, 2) := by decide +kernel
theorem dX9_init_582 : decode cX9_init 582 = .ok (.putfield 221, 3) := by decide +kernel
theorem dX9_init_585 : decode cX9_init 585 = .ok (.aload_n 0, 1) := by decide +kernel
theorem dX9_init_586 : decode cX9_init 586 = .ok (.bipush 24, 2) := by decide +kernel
theorem dX9_init_588 : decode cX9_init 588 = .ok (.newarray .int, 2) := by decide +kernel
theorem dX9_init_590 : decode cX9_init 590 = .ok (.putfield 224, 3) := by decide +kernel
theorem dX9_init_593 : decode cX9_init 593 = .ok (.aload_n 0, 1) := by decide +kernel
theorem dX9_init_594 : decode cX9_init 594 = .ok (.bipush 10, 2) := by decide +kernel
theorem dX9_init_596 : decode cX9_init 596 = .ok (.newarray .int, 2) := by decide +kernel
theorem dX9_init_598 : decode cX9_init 598 = .ok (.putfield 227, 3) := by decide +kernel
theorem dX9_init_601 : decode cX9_init 601 = .ok (.aload_n 0, 1) := by decide +kernel
theorem dX9_init_602 : decode cX9_init 602 = .ok (.iconst 5, 1) := by decide +kernel
theorem dX9_init_603 : decode cX9_init 603 = .ok (.newarray .int, 2) := by decide +kernel
theorem dX9_init_605 : decode cX9_init 605 = .ok (.putfield 230, 3) := by decide +kernel
theorem dX9_init_608 : decode cX9_init 608 = .ok (.aload_n 0, 1) := by decide +kernel
theorem dX9_init_609 : decode cX9_init 609 = .ok (.iconst 5, 1) := by decide +kernel
theorem dX9_init_610 : decode cX9_init 610 = .ok (.newarray .int, 2) := by decide +kernel
theorem dX9_init_612 : decode cX9_init 612 = .ok (.putfield 233, 3) := by decide +kernel
theorem dX9_init_615 : decode cX9_init 615 = .ok (.aload_n 0, 1) := by decide +kernel
theorem dX9_init_616 : decode cX9_init 616 = .ok (.iconst 5, 1) := by decide +kernel
theorem dX9_init_617 : decode cX9_init 617 = .ok (.newarray .int, 2) := by decide +kernel
theorem dX9_init_619 : decode cX9_init 619 = .ok (.putfield 236, 3) := by decide +kernel
theorem dX9_init_622 : decode cX9_init 622 = .ok (.aload_n 0, 1) := by decide +kernel
theorem dX9_init_623 : decode cX9_init 623 = .ok (.bipush 10, 2) := by decide +kernel
theorem dX9_init_625 : decode cX9_init 625 = .ok (.newarray .int, 2) := by decide +kernel
theorem dX9_init_627 : decode cX9_init 627 = .ok (.putfield 239, 3) := by decide +kernel
theorem dX9_init_630 : decode cX9_init 630 = .ok (.aload_n 0, 1) := by decide +kernel
theorem dX9_init_631 : decode cX9_init 631 = .ok (.bipush 10, 2) := by decide +kernel
theorem dX9_init_633 : decode cX9_init 633 = .ok (.newarray .int, 2) := by decide +kernel
theorem dX9_init_635 : decode cX9_init 635 = .ok (.putfield 242, 3) := by decide +kernel
theorem dX9_init_638 : decode cX9_init 638 = .ok (.aload_n 0, 1) := by decide +kernel
theorem dX9_init_639 : decode cX9_init 639 = .ok (.bipush 8, 2) := by decide +kernel
theorem dX9_init_641 : decode cX9_init 641 = .ok (.newarray .int, 2) := by decide +kernel
theorem dX9_init_643 : decode cX9_init 643 = .ok (.putfield 245, 3) := by decide +kernel
theorem dX9_init_646 : decode cX9_init 646 = .ok (.aload_n 0, 1) := by decide +kernel
theorem dX9_init_647 : decode cX9_init 647 = .ok (.bipush 8, 2) := by decide +kernel
theorem dX9_init_649 : decode cX9_init 649 = .ok (.newarray .int, 2) := by decide +kernel
theorem dX9_init_651 : decode cX9_init 651 = .ok (.putfield 248, 3) := by decide +kernel
theorem dX9_init_654 : decode cX9_init 654 = .ok (.aload_n 0, 1) := by decide +kernel
theorem dX9_init_655 : decode cX9_init 655 = .ok (.iconst 0, 1) := by decide +kernel
theorem dX9_init_656 : decode cX9_init 656 = .ok (.putfield 251, 3) := by decide +kernel
theorem dX9_init_659 : decode cX9_init 659 = .ok (.aload_n 0, 1) := by decide +kernel
theorem dX9_init_660 : decode cX9_init 660 = .ok (.bipush 20, 2) := by decide +kernel
theorem dX9_init_662 : decode cX9_init 662 = .ok (.newarray .int, 2) := by decide +kernel
theorem dX9_init_664 : decode cX9_init 664 = .ok (.putfield 254, 3) := by decide +kernel
theorem dX9_init_667 : decode cX9_init 667 = .ok (.aload_n 0, 1) := by decide +kernel
theorem dX9_init_668 : decode cX9_init 668 = .ok (.bipush 6, 2) := by decide +kernel
theorem dX9_init_670 : decode cX9_init 670 = .ok (.newarray .int, 2) := by decide +kernel
theorem dX9_init_672 : decode cX9_init 672 = .ok (.dup, 1) := by decide +kernel
theorem dX9_init_673 : decode cX9_init 673 = .ok (.iconst 0, 1) := by decide +kernel
theorem dX9_init_674 : decode cX9_init 674 = .ok (.iconst (-1), 1) := by decide +kernel
theorem dX9_init_675 : decode cX9_init 675 = .ok (.iastore, 1) := by decide +kernel
theorem dX9_init_676 : decode cX9_init 676 = .ok (.dup, 1) := by decide +kernel
theorem dX9_init_677 : decode cX9_init 677 = .ok (.iconst 1, 1) := by decide +kernel
theorem dX9_init_678 : decode cX9_init 678 = .ok (.iconst (-1), 1) := by decide +kernel
theorem dX9_init_679 : decode cX9_init 679 = .ok (.iastore, 1) := by decide +kernel
theorem dX9_init_680 : decode cX9_init 680 = .ok (.dup, 1) := by decide +kernel
theorem dX9_init_681 : decode cX9_init 681 = .ok (.iconst 2, 1) := by decide +kernel
theorem dX9_init_682 : decode cX9_init 682 = .ok (.iconst (-1), 1) := by decide +kernel
theorem dX9_init_683 : decode cX9_init 683 = .ok (.iastore, 1) := by decide +kernel
theorem dX9_init_684 : decode cX9_init 684 = .ok (.dup, 1) := by decide +kernel
theorem dX9_init_685 : decode cX9_init 685 = .ok (.iconst 3, 1) := by decide +kernel
theorem dX9_init_686 : decode cX9_init 686 = .ok (.iconst (-1), 1) := by decide +kernel
theorem dX9_init_687 : decode cX9_init 687 = .ok (.iastore, 1) := by decide +kernel
theorem dX9_init_688 : decode cX9_init 688 = .ok (.dup, 1) := by decide +kernel
theorem dX9_init_689 : decode cX9_init 689 = .ok (.iconst 4, 1) := by decide +kernel
theorem dX9_init_690 : decode cX9_init 690 = .ok (.iconst (-1), 1) := by decide +kernel
theorem dX9_init_691 : decode cX9_init 691 = .ok (.iastore, 1) := by decide +kernel
theorem dX9_init_692 : decode cX9_init 692 = .ok (.dup, 1) := by decide +kernel
theorem dX9_init_693 : decode cX9_init 693 = .ok (.iconst 5, 1) := by decide +kernel
theorem dX9_init_694 : decode cX9_init 694 = .ok (.iconst (-1), 1) := by decide +kernel
theorem dX9_init_695 : decode cX9_init 695 = .ok (.iastore, 1) := by decide +kernel
theorem dX9_init_696 : decode cX9_init 696 = .ok (.putfield 257, 3) := by decide +kernel
theorem dX9_init_699 : decode cX9_init 699 = .ok (.aload_n 0, 1) := by decide +kernel
theorem dX9_init_700 : decode cX9_init 700 = .ok (.bipush 6, 2) := by decide +kernel
theorem dX9_init_702 : decode cX9_init 702 = .ok (.newarray .int, 2) := by decide +kernel
theorem dX9_init_704 : decode cX9_init 704 = .ok (.putfield 260, 3) := by decide +kernel
theorem dX9_init_707 : decode cX9_init 707 = .ok (.aload_n 0, 1) := by decide +kernel
theorem dX9_init_708 : decode cX9_init 708 = .ok (.sipush 360, 3) := by decide +kernel
theorem dX9_init_711 : decode cX9_init 711 = .ok (.newarray .long, 2) := by decide +kernel
theorem dX9_init_713 : decode cX9_init 713 = .ok (.putfield 263, 3) := by decide +kernel
theorem dX9_init_716 : decode cX9_init 716 = .ok (.aload_n 0, 1) := by decide +kernel
theorem dX9_init_717 : decode cX9_init 717 = .ok (.bipush 60, 2) := by decide +kernel
theorem dX9_init_719 : decode cX9_init 719 = .ok (.newarray .long, 2) := by decide +kernel
theorem dX9_init_721 : decode cX9_init 721 = .ok (.putfield 267, 3) := by decide +kernel
theorem dX9_init_724 : decode cX9_init 724 = .ok (.return_, 1) := by decide +kernel
theorem dX9_in_0 : decode cX9_in 0 = .ok (.iload_n 1, 1) := by decide +kernel
theorem dX9_in_1 : decode cX9_in 1 = .ok (.iload_n 2, 1) := by decide +kernel
theorem dX9_in_2 : decode cX9_in 2 = .ok (.if_icmp .lt 12, 3) := by decide +kernel
theorem dX9_in_5 : decode cX9_in 5 = .ok (.iload_n 1, 1) := by decide +kernel
theorem dX9_in_6 : decode cX9_in 6 = .ok (.iload_n 3, 1) := by decide +kernel
theorem dX9_in_7 : decode cX9_in 7 = .ok (.if_icmp .gt 7, 3) := by decide +kernel
theorem dX9_in_10 : decode cX9_in 10 = .ok (.iconst 1, 1) := by decide +kernel
theorem dX9_in_11 : decode cX9_in 11 = .ok (.goto 4, 3) := by decide +kernel
theorem dX9_in_14 : decode cX9_in 14 = .ok (.iconst 0, 1) := by decide +kernel
theorem dX9_in_15 : decode cX9_in 15 = .ok (.ireturn, 1) := by decide +kernel
theorem dX9_has_0 : decode cX9_has 0 = .ok (.iload_n 1, 1) := by decide +kernel
theorem dX9_has_1 : decode cX9_has 1 = .ok (.iload_n 2, 1) := by decide +kernel
theorem dX9_has_2 : decode cX9_has 2 = .ok (.ishr, 1) := by decide +kernel
theorem dX9_has_3 : decode cX9_has 3 = .ok (.iconst 1, 1) := by decide +kernel
theorem dX9_has_4 : decode cX9_has 4 = .ok (.iand, 1) := by decide +kernel
theorem dX9_has_5 : decode cX9_has 5 = .ok (.iconst 1, 1) := by decide +kernel
theorem dX9_has_6 : decode cX9_has 6 = .ok (.if_icmp .ne 7, 3) := by decide +kernel
theorem dX9_has_9 : decode cX9_has 9 = .ok (.iconst 1, 1) := by decide +kernel
theorem dX9_has_10 : decode cX9_has 10 = .ok (.goto 4, 3) := by decide +kernel
theorem dX9_has_13 : decode cX9_has 13 = .ok (.iconst 0, 1) := by decide +kernel
theorem dX9_has_14 : decode cX9_has 14 = .ok (.ireturn, 1) := by decide +kernel
theorem dX9_least_0 : decode cX9_least 0 = .ok (.iload_n 1, 1) := by decide +kernel
theorem dX9_least_1 : decode cX9_least 1 = .ok (.iload_n 2, 1) := by decide +kernel
theorem dX9_least_2 : decode cX9_least 2 = .ok (.if_icmp .ge 7, 3) := by decide +kernel
theorem dX9_least_5 : decode cX9_least 5 = .ok (.iload_n 1, 1) := by decide +kernel
theorem dX9_least_6 : decode cX9_least 6 = .ok (.goto 4, 3) := by decide +kernel
theorem dX9_least_9 : decode cX9_least 9 = .ok (.iload_n 2, 1) := by decide +kernel
theorem dX9_least_10 : decode cX9_least 10 = .ok (.ireturn, 1) := by decide +kernel
set_option maxRecDepth 20000 in
theorem ggX9_bits_X9_has : GoodIn wsX9_bits wsX9_has := goodIn_r _ [5] (by decide +kernel) (by decide +kernel)
set_option maxRecDepth 20000 in
theorem gX9_bits_X9_has : GoodIn wsX9_bits (wsV RX9 270 RX9 yX9_has wsX9_has) := goodIn_app (goodIn_of _ (by decide +kernel)) ggX9_bits_X9_has
theorem dX9_bits_0 : decode cX9_bits 0 = .ok (.iconst 0, 1) := by decide +kernel
theorem dX9_bits_1 : decode cX9_bits 1 = .ok (.istore_n 2, 1) := by decide +kernel
theorem dX9_bits_2 : decode cX9_bits 2 = .ok (.iconst 0, 1) := by decide +kernel
theorem dX9_bits_3 : decode cX9_bits 3 = .ok (.istore_n 3, 1) := by decide +kernel
theorem dX9_bits_4 : decode cX9_bits 4 = .ok (.iload_n 3, 1) := by decide +kernel
theorem dX9_bits_5 : decode cX9_bits 5 = .ok (.bipush 10, 2) := by decide +kernel
theorem dX9_bits_7 : decode cX9_bits 7 = .ok (.if_icmp .ge 26, 3) := by decide +kernel
theorem dX9_bits_10 : decode cX9_bits 10 = .ok (.iload_n 2, 1) := by decide +kernel
theorem dX9_bits_11 : decode cX9_bits 11 = .ok (.aload_n 0, 1) := by decide +kernel
theorem dX9_bits_12 : decode cX9_bits 12 = .ok (.iload_n 1, 1) := by decide +kernel
theorem dX9_bits_13 : decode cX9_bits 13 = .ok (.iload_n 3, 1) := by decide +kernel
theorem dX9_bits_14 : decode cX9_bits 14 = .ok (.invokevirtual 270, 3) := by decide +kernel
theorem dX9_bits_17 : decode cX9_bits 17 = .ok (.ifCond .eq 7, 3) := by decide +kernel
theorem dX9_bits_20 : decode cX9_bits 20 = .ok (.iconst 1, 1) := by decide +kernel
theorem dX9_bits_21 : decode cX9_bits 21 = .ok (.goto 4, 3) := by decide +kernel
theorem dX9_bits_24 : decode cX9_bits 24 = .ok (.iconst 0, 1) := by decide +kernel
theorem dX9_bits_25 : decode cX9_bits 25 = .ok (.iadd, 1) := by decide +kernel
theorem dX9_bits_26 : decode cX9_bits 26 = .ok (.istore_n 2, 1) := by decide +kernel
theorem dX9_bits_27 : decode cX9_bits 27 = .ok (.iinc 3 1, 3) := by decide +kernel
theorem dX9_bits_30 : decode cX9_bits 30 = .ok (.goto (-26), 3) := by decide +kernel
theorem dX9_bits_33 : decode cX9_bits 33 = .ok (.iload_n 2, 1) := by decide +kernel
theorem dX9_bits_34 : decode cX9_bits 34 = .ok (.ireturn, 1) := by decide +kernel
theorem dX9_apart_0 : decode cX9_apart 0 = .ok (.iload_n 1, 1) := by decide +kernel
theorem dX9_apart_1 : decode cX9_apart 1 = .ok (.iload_n 2, 1) := by decide +kernel
theorem dX9_apart_2 : decode cX9_apart 2 = .ok (.if_icmp .ge 9, 3) := by decide +kernel
theorem dX9_apart_5 : decode cX9_apart 5 = .ok (.iload_n 2, 1) := by decide +kernel
theorem dX9_apart_6 : decode cX9_apart 6 = .ok (.iload_n 1, 1) := by decide +kernel
theorem dX9_apart_7 : decode cX9_apart 7 = .ok (.isub, 1) := by decide +kernel
theorem dX9_apart_8 : decode cX9_apart 8 = .ok (.goto 6, 3) := by decide +kernel
theorem dX9_apart_11 : decode cX9_apart 11 = .ok (.iload_n 1, 1) := by decide +kernel
theorem dX9_apart_12 : decode cX9_apart 12 = .ok (.iload_n 2, 1) := by decide +kernel
theorem dX9_apart_13 : decode cX9_apart 13 = .ok (.isub, 1) := by decide +kernel
theorem dX9_apart_14 : decode cX9_apart 14 = .ok (.ireturn, 1) := by decide +kernel
set_option maxRecDepth 20000 in
theorem ggX9_isMaster_X9_in : GoodIn wsX9_isMaster wsX9_in := goodIn_r _ [6] (by decide +kernel) (by decide +kernel)
set_option maxRecDepth 20000 in
theorem gX9_isMaster_X9_in : GoodIn wsX9_isMaster (wsV RX9 274 RX9 yX9_in wsX9_in) := goodIn_app (goodIn_of _ (by decide +kernel)) ggX9_isMaster_X9_in
theorem dX9_isMaster_0 : decode cX9_isMaster 0 = .ok (.aload_n 0, 1) := by decide +kernel
theorem dX9_isMaster_1 : decode cX9_isMaster 1 = .ok (.iload_n 1, 1) := by decide +kernel
theorem dX9_isMaster_2 : decode cX9_isMaster 2 = .ok (.iconst 0, 1) := by decide +kernel
theorem dX9_isMaster_3 : decode cX9_isMaster 3 = .ok (.aload_n 0, 1) := by decide +kernel
theorem dX9_isMaster_4 : decode cX9_isMaster 4 = .ok (.getfield 7, 3) := by decide +kernel
theorem dX9_isMaster_7 : decode cX9_isMaster 7 = .ok (.iconst 1, 1) := by decide +kernel
theorem dX9_isMaster_8 : decode cX9_isMaster 8 = .ok (.isub, 1) := by decide +kernel
theorem dX9_isMaster_9 : decode cX9_isMaster 9 = .ok (.invokevirtual 274, 3) := by decide +kernel
theorem dX9_isMaster_12 : decode cX9_isMaster 12 = .ok (.ireturn, 1) := by decide +kernel
set_option maxRecDepth 20000 in
theorem ggX9_isFloor_X9_in : GoodIn wsX9_isFloor wsX9_in := goodIn_r _ [5] (by decide +kernel) (by decide +kernel)
set_option maxRecDepth 20000 in
theorem gX9_isFloor_X9_in : GoodIn wsX9_isFloor (wsV RX9 274 RX9 yX9_in wsX9_in) := goodIn_app (goodIn_of _ (by decide +kernel)) ggX9_isFloor_X9_in
theorem dX9_isFloor_0 : decode cX9_isFloor 0 = .ok (.aload_n 0, 1) := by decide +kernel
theorem dX9_isFloor_1 : decode cX9_isFloor 1 = .ok (.iload_n 1, 1) := by decide +kernel
theorem dX9_isFloor_2 : decode cX9_isFloor 2 = .ok (.iconst 0, 1) := by decide +kernel
theorem dX9_isFloor_3 : decode cX9_isFloor 3 = .ok (.bipush 9, 2) := by decide +kernel
theorem dX9_isFloor_5 : decode cX9_isFloor 5 = .ok (.invokevirtual 274, 3) := by decide +kernel
theorem dX9_isFloor_8 : decode cX9_isFloor 8 = .ok (.ireturn, 1) := by decide +kernel
set_option maxRecDepth 20000 in
theorem ggX9_isMinutes_X9_in : GoodIn wsX9_isMinutes wsX9_in := goodIn_r _ [5] (by decide +kernel) (by decide +kernel)
set_option maxRecDepth 20000 in
theorem gX9_isMinutes_X9_in : GoodIn wsX9_isMinutes (wsV RX9 274 RX9 yX9_in wsX9_in) := goodIn_app (goodIn_of _ (by decide +kernel)) ggX9_isMinutes_X9_in
theorem dX9_isMinutes_0 : decode cX9_isMinutes 0 = .ok (.aload_n 0, 1) := by decide +kernel
theorem dX9_isMinutes_1 : decode cX9_isMinutes 1 = .ok (.iload_n 1, 1) := by decide +kernel
theorem dX9_isMinutes_2 : decode cX9_isMinutes 2 = .ok (.iconst 0, 1) := by decide +kernel
theorem dX9_isMinutes_3 : decode cX9_isMinutes 3 = .ok (.bipush 60, 2) := by decide +kernel
theorem dX9_isMinutes_5 : decode cX9_isMinutes 5 = .ok (.invokevirtual 274, 3) := by decide +kernel
theorem dX9_isMinutes_8 : decode cX9_isMinutes 8 = .ok (.ireturn, 1) := by decide +kernel
set_option maxRecDepth 20000 in
theorem ggX9_master_X9_in : GoodIn wsX9_master wsX9_in := goodIn_r _ [14] (by decide +kernel) (by decide +kernel)
set_option maxRecDepth 20000 in
theorem gX9_master_X9_in : GoodIn wsX9_master (wsV RX9 274 RX9 yX9_in wsX9_in) := goodIn_app (goodIn_of _ (by decide +kernel)) ggX9_master_X9_in
set_option maxRecDepth 20000 in
theorem ggX9_master_X9_isFloor : GoodIn wsX9_master wsX9_isFloor := goodIn_r _ [18, 10, 11, 12, 13, 14] (by decide +kernel) (by decide +kernel)
set_option maxRecDepth 20000 in
theorem gX9_master_X9_isFloor : GoodIn wsX9_master (wsV RX9 278 RX9 yX9_isFloor wsX9_isFloor) := goodIn_app (goodIn_of _ (by decide +kernel)) ggX9_master_X9_isFloor
theorem dX9_master_0 : decode cX9_master 0 = .ok (.aload_n 0, 1) := by decide +kernel
theorem dX9_master_1 : decode cX9_master 1 = .ok (.iload_n 1, 1) := by decide +kernel
theorem dX9_master_2 : decode cX9_master 2 = .ok (.iconst 0, 1) := by decide +kernel
theorem dX9_master_3 : decode cX9_master 3 = .ok (.bipush 6, 2) := by decide +kernel
theorem dX9_master_5 : decode cX9_master 5 = .ok (.invokevirtual 274, 3) := by decide +kernel
theorem dX9_master_8 : decode cX9_master 8 = .ok (.ifCond .eq 11, 3) := by decide +kernel
theorem dX9_master_11 : decode cX9_master 11 = .ok (.aload_n 0, 1) := by decide +kernel
theorem dX9_master_12 : decode cX9_master 12 = .ok (.iload_n 3, 1) := by decide +kernel
theorem dX9_master_13 : decode cX9_master 13 = .ok (.invokevirtual 278, 3) := by decide +kernel
theorem dX9_master_16 : decode cX9_master 16 = .ok (.ifCond .ne 5, 3) := by decide +kernel
theorem dX9_master_19 : decode cX9_master 19 = .ok (.iconst (-1), 1) := by decide +kernel
theorem dX9_master_20 : decode cX9_master 20 = .ok (.ireturn, 1) := by decide +kernel
theorem dX9_master_21 : decode cX9_master 21 = .ok (.aload_n 0, 1) := by decide +kernel
theorem dX9_master_22 : decode cX9_master 22 = .ok (.iload_n 2, 1) := by decide +kernel
theorem dX9_master_23 : decode cX9_master 23 = .ok (.iconst 0, 1) := by decide +kernel
theorem dX9_master_24 : decode cX9_master 24 = .ok (.bipush 9, 2) := by decide +kernel
theorem dX9_master_26 : decode cX9_master 26 = .ok (.invokevirtual 274, 3) := by decide +kernel
theorem dX9_master_29 : decode cX9_master 29 = .ok (.ifCond .ne 6, 3) := by decide +kernel
theorem dX9_master_32 : decode cX9_master 32 = .ok (.bipush (-2), 2) := by decide +kernel
theorem dX9_master_34 : decode cX9_master 34 = .ok (.ireturn, 1) := by decide +kernel
theorem dX9_master_35 : decode cX9_master 35 = .ok (.aload_n 0, 1) := by decide +kernel
theorem dX9_master_36 : decode cX9_master 36 = .ok (.getfield 7, 3) := by decide +kernel
theorem dX9_master_39 : decode cX9_master 39 = .ok (.bipush 6, 2) := by decide +kernel
theorem dX9_master_41 : decode cX9_master 41 = .ok (.if_icmp .ne 6, 3) := by decide +kernel
theorem dX9_master_44 : decode cX9_master 44 = .ok (.bipush (-4), 2) := by decide +kernel
theorem dX9_master_46 : decode cX9_master 46 = .ok (.ireturn, 1) := by decide +kernel
theorem dX9_master_47 : decode cX9_master 47 = .ok (.aload_n 0, 1) := by decide +kernel
theorem dX9_master_48 : decode cX9_master 48 = .ok (.getfield 25, 3) := by decide +kernel
theorem dX9_master_51 : decode cX9_master 51 = .ok (.aload_n 0, 1) := by decide +kernel
theorem dX9_master_52 : decode cX9_master 52 = .ok (.getfield 7, 3) := by decide +kernel
theorem dX9_master_55 : decode cX9_master 55 = .ok (.iload_n 1, 1) := by decide +kernel
theorem dX9_master_56 : decode cX9_master 56 = .ok (.iastore, 1) := by decide +kernel
theorem dX9_master_57 : decode cX9_master 57 = .ok (.aload_n 0, 1) := by decide +kernel
theorem dX9_master_58 : decode cX9_master 58 = .ok (.getfield 29, 3) := by decide +kernel
theorem dX9_master_61 : decode cX9_master 61 = .ok (.aload_n 0, 1) := by decide +kernel
theorem dX9_master_62 : decode cX9_master 62 = .ok (.getfield 7, 3) := by decide +kernel
theorem dX9_master_65 : decode cX9_master 65 = .ok (.iload_n 2, 1) := by decide +kernel
theorem dX9_master_66 : decode cX9_master 66 = .ok (.iastore, 1) := by decide +kernel
theorem dX9_master_67 : decode cX9_master 67 = .ok (.aload_n 0, 1) := by decide +kernel
theorem dX9_master_68 : decode cX9_master 68 = .ok (.getfield 32, 3) := by decide +kernel
theorem dX9_master_71 : decode cX9_master 71 = .ok (.aload_n 0, 1) := by decide +kernel
theorem dX9_master_72 : decode cX9_master 72 = .ok (.getfield 7, 3) := by decide +kernel
theorem dX9_master_75 : decode cX9_master 75 = .ok (.iload_n 3, 1) := by decide +kernel
theorem dX9_master_76 : decode cX9_master 76 = .ok (.iastore, 1) := by decide +kernel
theorem dX9_master_77 : decode cX9_master 77 = .ok (.aload_n 0, 1) := by decide +kernel
theorem dX9_master_78 : decode cX9_master 78 = .ok (.getfield 35, 3) := by decide +kernel
theorem dX9_master_81 : decode cX9_master 81 = .ok (.aload_n 0, 1) := by decide +kernel
theorem dX9_master_82 : decode cX9_master 82 = .ok (.getfield 7, 3) := by decide +kernel
theorem dX9_master_85 : decode cX9_master 85 = .ok (.bipush (-5), 2) := by decide +kernel
theorem dX9_master_87 : decode cX9_master 87 = .ok (.iastore, 1) := by decide +kernel
theorem dX9_master_88 : decode cX9_master 88 = .ok (.aload_n 0, 1) := by decide +kernel
theorem dX9_master_89 : decode cX9_master 89 = .ok (.getfield 38, 3) := by decide +kernel
theorem dX9_master_92 : decode cX9_master 92 = .ok (.aload_n 0, 1) := by decide +kernel
theorem dX9_master_93 : decode cX9_master 93 = .ok (.getfield 7, 3) := by decide +kernel
theorem dX9_master_96 : decode cX9_master 96 = .ok (.iconst 0, 1) := by decide +kernel
theorem dX9_master_97 : decode cX9_master 97 = .ok (.iastore, 1) := by decide +kernel
theorem dX9_master_98 : decode cX9_master 98 = .ok (.aload_n 0, 1) := by decide +kernel
theorem dX9_master_99 : decode cX9_master 99 = .ok (.getfield 41, 3) := by decide +kernel
theorem dX9_master_102 : decode cX9_master 102 = .ok (.aload_n 0, 1) := by decide +kernel
theorem dX9_master_103 : decode cX9_master 103 = .ok (.getfield 7, 3) := by decide +kernel
theorem dX9_master_106 : decode cX9_master 106 = .ok (.iconst 0, 1) := by decide +kernel
theorem dX9_master_107 : decode cX9_master 107 = .ok (.iastore, 1) := by decide +kernel
theorem dX9_master_108 : decode cX9_master 108 = .ok (.aload_n 0, 1) := by decide +kernel
theorem dX9_master_109 : decode cX9_master 109 = .ok (.dup, 1) := by decide +kernel
theorem dX9_master_110 : decode cX9_master 110 = .ok (.getfield 13, 3) := by decide +kernel
theorem dX9_master_113 : decode cX9_master 113 = .ok (.iconst 1, 1) := by decide +kernel
theorem dX9_master_114 : decode cX9_master 114 = .ok (.aload_n 0, 1) := by decide +kernel
theorem dX9_master_115 : decode cX9_master 115 = .ok (.getfield 7, 3) := by decide +kernel
theorem dX9_master_118 : decode cX9_master 118 = .ok (.ishl, 1) := by decide +kernel
theorem dX9_master_119 : decode cX9_master 119 = .ok (.iconst (-1), 1) := by decide +kernel
theorem dX9_master_120 : decode cX9_master 120 = .ok (.ixor, 1) := by decide +kernel
theorem dX9_master_121 : decode cX9_master 121 = .ok (.iand, 1) := by decide +kernel
theorem dX9_master_122 : decode cX9_master 122 = .ok (.putfield 13, 3) := by decide +kernel
theorem dX9_master_125 : decode cX9_master 125 = .ok (.iconst 0, 1) := by decide +kernel
theorem dX9_master_126 : decode cX9_master 126 = .ok (.istore 4, 2) := by decide +kernel
theorem dX9_master_128 : decode cX9_master 128 = .ok (.iload 4, 2) := by decide +kernel
theorem dX9_master_130 : decode cX9_master 130 = .ok (.iconst 4, 1) := by decide +kernel
theorem dX9_master_131 : decode cX9_master 131 = .ok (.if_icmp .ge 24, 3) := by decide +kernel
theorem dX9_master_134 : decode cX9_master 134 = .ok (.aload_n 0, 1) := by decide +kernel
theorem dX9_master_135 : decode cX9_master 135 = .ok (.getfield 44, 3) := by decide +kernel
theorem dX9_master_138 : decode cX9_master 138 = .ok (.iconst 4, 1) := by decide +kernel
theorem dX9_master_139 : decode cX9_master 139 = .ok (.aload_n 0, 1) := by decide +kernel
theorem dX9_master_140 : decode cX9_master 140 = .ok (.getfield 7, 3) := by decide +kernel
theorem dX9_master_143 : decode cX9_master 143 = .ok (.imul, 1) := by decide +kernel
theorem dX9_master_144 : decode cX9_master 144 = .ok (.iload 4, 2) := by decide +kernel
theorem dX9_master_146 : decode cX9_master 146 = .ok (.iadd, 1) := by decide +kernel
theorem dX9_master_147 : decode cX9_master 147 = .ok (.iconst 0, 1) := by decide +kernel
theorem dX9_master_148 : decode cX9_master 148 = .ok (.iastore, 1) := by decide +kernel
theorem dX9_master_149 : decode cX9_master 149 = .ok (.iinc 4 1, 3) := by decide +kernel
theorem dX9_master_152 : decode cX9_master 152 = .ok (.goto (-24), 3) := by decide +kernel
theorem dX9_master_155 : decode cX9_master 155 = .ok (.aload_n 0, 1) := by decide +kernel
theorem dX9_master_156 : decode cX9_master 156 = .ok (.dup, 1) := by decide +kernel
theorem dX9_master_157 : decode cX9_master 157 = .ok (.getfield 7, 3) := by decide +kernel
theorem dX9_master_160 : decode cX9_master 160 = .ok (.iconst 1, 1) := by decide +kernel
theorem dX9_master_161 : decode cX9_master 161 = .ok (.iadd, 1) := by decide +kernel
theorem dX9_master_162 : decode cX9_master 162 = .ok (.putfield 7, 3) := by decide +kernel
theorem dX9_master_165 : decode cX9_master 165 = .ok (.aload_n 0, 1) := by decide +kernel
theorem dX9_master_166 : decode cX9_master 166 = .ok (.getfield 7, 3) := by decide +kernel
theorem dX9_master_169 : decode cX9_master 169 = .ok (.iconst 1, 1) := by decide +kernel
theorem dX9_master_170 : decode cX9_master 170 = .ok (.isub, 1) := by decide +kernel
theorem dX9_master_171 : decode cX9_master 171 = .ok (.ireturn, 1) := by decide +kernel
set_option maxRecDepth 20000 in
theorem ggX9_set_X9_isMaster : GoodIn wsX9_set wsX9_isMaster := goodIn_r _ [7, 8, 9, 10, 11, 6, 12, 17, 18, 19, 20, 21, 22, 23, 24, 25, 26, 27, 28, 29, 30, 31, 32, 33, 34, 35, 36, 37, 38, 39, 40, 41, 42, 43, 44, 45, 46, 47, 48, 49, 50, 51, 52, 53, 54, 55, 56, 57, 58, 59, 60, 61, 62, 63, 64, 65, 66, 67, 68, 69, 70, 71, 72, 73, 74, 75, 76, 77, 78, 79, 80, 81, 82, 83, 84, 85, 86, 87, 88, 89, 90, 91, 92, 93, 94, 95, 96, 97, 98, 99, 100, 101] (by decide +kernel) (by decide +kernel)
set_option maxRecDepth 20000 in
theorem gX9_set_X9_isMaster : GoodIn wsX9_set (wsV RX9 282 RX9 yX9_isMaster wsX9_isMaster) := goodIn_app (goodIn_of _ (by decide +kernel)) ggX9_set_X9_isMaster
set_option maxRecDepth 20000 in
theorem ggX9_set_X9_in : GoodIn wsX9_set wsX9_in := goodIn_r _ [12] (by decide +kernel) (by decide +kernel)
set_option maxRecDepth 20000 in
theorem gX9_set_X9_in : GoodIn wsX9_set (wsV RX9 274 RX9 yX9_in wsX9_in) := goodIn_app (goodIn_of _ (by decide +kernel)) ggX9_set_X9_in
set_option maxRecDepth 20000 in
theorem ggX9_set_X9_isFloor : GoodIn wsX9_set wsX9_isFloor := goodIn_r _ [16, 9, 10, 11, 6, 12] (by decide +kernel) (by decide +kernel)
set_option maxRecDepth 20000 in
theorem gX9_set_X9_isFloor : GoodIn wsX9_set (wsV RX9 278 RX9 yX9_isFloor wsX9_isFloor) := goodIn_app (goodIn_of _ (by decide +kernel)) ggX9_set_X9_isFloor
theorem dX9_set_0 : decode cX9_set 0 = .ok (.aload_n 0, 1) := by decide +kernel
theorem dX9_set_1 : decode cX9_set 1 = .ok (.iload_n 1, 1) := by decide +kernel
theorem dX9_set_2 : decode cX9_set 2 = .ok (.invokevirtual 282, 3) := by decide +kernel
theorem dX9_set_5 : decode cX9_set 5 = .ok (.ifCond .eq 13, 3) := by decide +kernel
theorem dX9_set_8 : decode cX9_set 8 = .ok (.aload_n 0, 1) := by decide +kernel
theorem dX9_set_9 : decode cX9_set 9 = .ok (.iload_n 2, 1) := by decide +kernel
theorem dX9_set_10 : decode cX9_set 10 = .ok (.iconst 0, 1) := by decide +kernel
theorem dX9_set_11 : decode cX9_set 11 = .ok (.iconst 1, 1) := by decide +kernel
theorem dX9_set_12 : decode cX9_set 12 = .ok (.invokevirtual 274, 3) := by decide +kernel
theorem dX9_set_15 : decode cX9_set 15 = .ok (.ifCond .ne 5, 3) := by decide +kernel
theorem dX9_set_18 : decode cX9_set 18 = .ok (.iconst (-1), 1) := by decide +kernel
theorem dX9_set_19 : decode cX9_set 19 = .ok (.ireturn, 1) := by decide +kernel
theorem dX9_set_20 : decode cX9_set 20 = .ok (.iload_n 2, 1) := by decide +kernel
theorem dX9_set_21 : decode cX9_set 21 = .ok (.ifCond .ne 14, 3) := by decide +kernel
theorem dX9_set_24 : decode cX9_set 24 = .ok (.aload_n 0, 1) := by decide +kernel
theorem dX9_set_25 : decode cX9_set 25 = .ok (.iload_n 3, 1) := by decide +kernel
theorem dX9_set_26 : decode cX9_set 26 = .ok (.invokevirtual 278, 3) := by decide +kernel
theorem dX9_set_29 : decode cX9_set 29 = .ok (.ifCond .ne 20, 3) := by decide +kernel
theorem dX9_set_32 : decode cX9_set 32 = .ok (.goto 14, 3) := by decide +kernel
theorem dX9_set_35 : decode cX9_set 35 = .ok (.aload_n 0, 1) := by decide +kernel
theorem dX9_set_36 : decode cX9_set 36 = .ok (.iload_n 3, 1) := by decide +kernel
theorem dX9_set_37 : decode cX9_set 37 = .ok (.iconst 0, 1) := by decide +kernel
theorem dX9_set_38 : decode cX9_set 38 = .ok (.bipush 99, 2) := by decide +kernel
theorem dX9_set_40 : decode cX9_set 40 = .ok (.invokevirtual 274, 3) := by decide +kernel
theorem dX9_set_43 : decode cX9_set 43 = .ok (.ifCond .ne 6, 3) := by decide +kernel
theorem dX9_set_46 : decode cX9_set 46 = .ok (.bipush (-2), 2) := by decide +kernel
theorem dX9_set_48 : decode cX9_set 48 = .ok (.ireturn, 1) := by decide +kernel
theorem dX9_set_49 : decode cX9_set 49 = .ok (.iload_n 2, 1) := by decide +kernel
theorem dX9_set_50 : decode cX9_set 50 = .ok (.ifCond .ne 12, 3) := by decide +kernel
theorem dX9_set_53 : decode cX9_set 53 = .ok (.aload_n 0, 1) := by decide +kernel
theorem dX9_set_54 : decode cX9_set 54 = .ok (.getfield 32, 3) := by decide +kernel
theorem dX9_set_57 : decode cX9_set 57 = .ok (.iload_n 1, 1) := by decide +kernel
theorem dX9_set_58 : decode cX9_set 58 = .ok (.iaload, 1) := by decide +kernel
theorem dX9_set_59 : decode cX9_set 59 = .ok (.goto 9, 3) := by decide +kernel
theorem dX9_set_62 : decode cX9_set 62 = .ok (.aload_n 0, 1) := by decide +kernel
theorem dX9_set_63 : decode cX9_set 63 = .ok (.getfield 38, 3) := by decide +kernel
theorem dX9_set_66 : decode cX9_set 66 = .ok (.iload_n 1, 1) := by decide +kernel
theorem dX9_set_67 : decode cX9_set 67 = .ok (.iaload, 1) := by decide +kernel
theorem dX9_set_68 : decode cX9_set 68 = .ok (.istore 4, 2) := by decide +kernel
theorem dX9_set_70 : decode cX9_set 70 = .ok (.iload_n 2, 1) := by decide +kernel
theorem dX9_set_71 : decode cX9_set 71 = .ok (.ifCond .ne 13, 3) := by decide +kernel
theorem dX9_set_74 : decode cX9_set 74 = .ok (.aload_n 0, 1) := by decide +kernel
theorem dX9_set_75 : decode cX9_set 75 = .ok (.getfield 32, 3) := by decide +kernel
theorem dX9_set_78 : decode cX9_set 78 = .ok (.iload_n 1, 1) := by decide +kernel
theorem dX9_set_79 : decode cX9_set 79 = .ok (.iload_n 3, 1) := by decide +kernel
theorem dX9_set_80 : decode cX9_set 80 = .ok (.iastore, 1) := by decide +kernel
theorem dX9_set_81 : decode cX9_set 81 = .ok (.goto 10, 3) := by decide +kernel
theorem dX9_set_84 : decode cX9_set 84 = .ok (.aload_n 0, 1) := by decide +kernel
theorem dX9_set_85 : decode cX9_set 85 = .ok (.getfield 38, 3) := by decide +kernel
theorem dX9_set_88 : decode cX9_set 88 = .ok (.iload_n 1, 1) := by decide +kernel
theorem dX9_set_89 : decode cX9_set 89 = .ok (.iload_n 3, 1) := by decide +kernel
theorem dX9_set_90 : decode cX9_set 90 = .ok (.iastore, 1) := by decide +kernel
theorem dX9_set_91 : decode cX9_set 91 = .ok (.iload 4, 2) := by decide +kernel
theorem dX9_set_93 : decode cX9_set 93 = .ok (.ireturn, 1) := by decide +kernel
theorem dX9_goes_0 : decode cX9_goes 0 = .ok (.aload_n 0, 1) := by decide +kernel
theorem dX9_goes_1 : decode cX9_goes 1 = .ok (.iload_n 2, 1) := by decide +kernel
theorem dX9_goes_2 : decode cX9_goes 2 = .ok (.ifCond .eq 14, 3) := by decide +kernel
theorem dX9_goes_5 : decode cX9_goes 5 = .ok (.aload_n 0, 1) := by decide +kernel
theorem dX9_goes_6 : decode cX9_goes 6 = .ok (.getfield 13, 3) := by decide +kernel
theorem dX9_goes_9 : decode cX9_goes 9 = .ok (.iconst 1, 1) := by decide +kernel
theorem dX9_goes_10 : decode cX9_goes 10 = .ok (.iload_n 1, 1) := by decide +kernel
theorem dX9_goes_11 : decode cX9_goes 11 = .ok (.ishl, 1) := by decide +kernel
theorem dX9_goes_12 : decode cX9_goes 12 = .ok (.ior, 1) := by decide +kernel
theorem dX9_goes_13 : decode cX9_goes 13 = .ok (.goto 13, 3) := by decide +kernel
theorem dX9_goes_16 : decode cX9_goes 16 = .ok (.aload_n 0, 1) := by decide +kernel
theorem dX9_goes_17 : decode cX9_goes 17 = .ok (.getfield 13, 3) := by decide +kernel
theorem dX9_goes_20 : decode cX9_goes 20 = .ok (.iconst 1, 1) := by decide +kernel
theorem dX9_goes_21 : decode cX9_goes 21 = .ok (.iload_n 1, 1) := by decide +kernel
theorem dX9_goes_22 : decode cX9_goes 22 = .ok (.ishl, 1) := by decide +kernel
theorem dX9_goes_23 : decode cX9_goes 23 = .ok (.iconst (-1), 1) := by decide +kernel
theorem dX9_goes_24 : decode cX9_goes 24 = .ok (.ixor, 1) := by decide +kernel
theorem dX9_goes_25 : decode cX9_goes 25 = .ok (.iand, 1) := by decide +kernel
theorem dX9_goes_26 : decode cX9_goes 26 = .ok (.putfield 13, 3) := by decide +kernel
theorem dX9_goes_29 : decode cX9_goes 29 = .ok (.return_, 1) := by decide +kernel
set_option maxRecDepth 20000 in
theorem ggX9_away_X9_isMaster : GoodIn wsX9_away wsX9_isMaster := goodIn_r _ [6, 7, 8, 9, 10, 5, 11, 20, 21, 22, 23, 24, 25, 26, 27, 28, 29, 30, 31, 32, 33, 34, 35, 36, 37, 38, 39, 40, 41, 42, 43, 44, 45, 46, 47, 48, 49, 50, 51, 52, 53, 54, 55, 56, 57, 58, 59, 60, 61, 62, 63, 64, 65, 66, 67, 68, 69, 70, 71, 72, 73, 74, 75, 76, 77, 78, 79, 80, 81, 82, 83, 84, 85, 86, 87, 88, 89, 90, 91, 92, 93, 94, 95, 96, 97, 98, 99, 100, 101, 102, 103, 104] (by decide +kernel) (by decide +kernel)
set_option maxRecDepth 20000 in
theorem gX9_away_X9_isMaster : GoodIn wsX9_away (wsV RX9 282 RX9 yX9_isMaster wsX9_isMaster) := goodIn_app (goodIn_of _ (by decide +kernel)) ggX9_away_X9_isMaster
set_option maxRecDepth 20000 in
theorem ggX9_away_X9_has : GoodIn wsX9_away wsX9_has := goodIn_r _ [15] (by decide +kernel) (by decide +kernel)
set_option maxRecDepth 20000 in
theorem gX9_away_X9_has : GoodIn wsX9_away (wsV RX9 270 RX9 yX9_has wsX9_has) := goodIn_app (goodIn_of _ (by decide +kernel)) ggX9_away_X9_has
set_option maxRecDepth 20000 in
theorem ggX9_away_X9_goes : GoodIn wsX9_away wsX9_goes := goodIn_r _ [19, 1, 20, 21, 22, 23, 24, 25, 26, 27, 28, 29, 30, 31, 32, 33, 34, 35, 36, 37, 38, 39, 40, 41, 42, 43, 44, 45, 46, 47, 48, 49, 50, 51, 52, 53, 54, 55, 56, 57, 58, 59, 60, 61, 62, 63, 64, 65, 66, 67, 68, 69, 70, 71, 72, 73, 74, 75, 76, 77, 78, 79, 80, 81, 82, 83, 84, 85, 86, 87, 88, 89, 90, 91, 92, 93, 94, 95, 96, 97, 98, 99, 100, 101, 102, 103, 104] (by decide +kernel) (by decide +kernel)
set_option maxRecDepth 20000 in
theorem gX9_away_X9_goes : GoodIn wsX9_away (wsV RX9 285 RX9 yX9_goes wsX9_goes) := goodIn_app (goodIn_of _ (by decide +kernel)) ggX9_away_X9_goes
theorem dX9_away_0 : decode cX9_away 0 = .ok (.aload_n 0, 1) := by decide +kernel
theorem dX9_away_1 : decode cX9_away 1 = .ok (.iload_n 1, 1) := by decide +kernel
theorem dX9_away_2 : decode cX9_away 2 = .ok (.invokevirtual 282, 3) := by decide +kernel
theorem dX9_away_5 : decode cX9_away 5 = .ok (.ifCond .ne 5, 3) := by decide +kernel
theorem dX9_away_8 : decode cX9_away 8 = .ok (.iconst (-1), 1) := by decide +kernel
theorem dX9_away_9 : decode cX9_away 9 = .ok (.ireturn, 1) := by decide +kernel
theorem dX9_away_10 : decode cX9_away 10 = .ok (.aload_n 0, 1) := by decide +kernel
theorem dX9_away_11 : decode cX9_away 11 = .ok (.aload_n 0, 1) := by decide +kernel
theorem dX9_away_12 : decode cX9_away 12 = .ok (.getfield 13, 3) := by decide +kernel
theorem dX9_away_15 : decode cX9_away 15 = .ok (.iload_n 1, 1) := by decide +kernel
theorem dX9_away_16 : decode cX9_away 16 = .ok (.invokevirtual 270, 3) := by decide +kernel
theorem dX9_away_19 : decode cX9_away 19 = .ok (.ifCond .eq 7, 3) := by decide +kernel
theorem dX9_away_22 : decode cX9_away 22 = .ok (.iconst 1, 1) := by decide +kernel
theorem dX9_away_23 : decode cX9_away 23 = .ok (.goto 4, 3) := by decide +kernel
theorem dX9_away_26 : decode cX9_away 26 = .ok (.iconst 0, 1) := by decide +kernel
theorem dX9_away_27 : decode cX9_away 27 = .ok (.istore_n 3, 1) := by decide +kernel
theorem dX9_away_28 : decode cX9_away 28 = .ok (.aload_n 0, 1) := by decide +kernel
theorem dX9_away_29 : decode cX9_away 29 = .ok (.iload_n 1, 1) := by decide +kernel
theorem dX9_away_30 : decode cX9_away 30 = .ok (.iload_n 2, 1) := by decide +kernel
theorem dX9_away_31 : decode cX9_away 31 = .ok (.invokevirtual 285, 3) := by decide +kernel
theorem dX9_away_34 : decode cX9_away 34 = .ok (.iload_n 3, 1) := by decide +kernel
theorem dX9_away_35 : decode cX9_away 35 = .ok (.ireturn, 1) := by decide +kernel
set_option maxRecDepth 20000 in
theorem ggX9_ring_X9_isFloor : GoodIn wsX9_ring wsX9_isFloor := goodIn_r _ [7, 8, 9, 10, 6, 11] (by decide +kernel) (by decide +kernel)
set_option maxRecDepth 20000 in
theorem gX9_ring_X9_isFloor : GoodIn wsX9_ring (wsV RX9 278 RX9 yX9_isFloor wsX9_isFloor) := goodIn_app (goodIn_of _ (by decide +kernel)) ggX9_ring_X9_isFloor
theorem dX9_ring_0 : decode cX9_ring 0 = .ok (.aload_n 0, 1) := by decide +kernel
theorem dX9_ring_1 : decode cX9_ring 1 = .ok (.iload_n 1, 1) := by decide +kernel
theorem dX9_ring_2 : decode cX9_ring 2 = .ok (.invokevirtual 278, 3) := by decide +kernel
theorem dX9_ring_5 : decode cX9_ring 5 = .ok (.ifCond .ne 5, 3) := by decide +kernel
theorem dX9_ring_8 : decode cX9_ring 8 = .ok (.iconst (-1), 1) := by decide +kernel
theorem dX9_ring_9 : decode cX9_ring 9 = .ok (.ireturn, 1) := by decide +kernel
theorem dX9_ring_10 : decode cX9_ring 10 = .ok (.aload_n 0, 1) := by decide +kernel
theorem dX9_ring_11 : decode cX9_ring 11 = .ok (.dup, 1) := by decide +kernel
theorem dX9_ring_12 : decode cX9_ring 12 = .ok (.getfield 16, 3) := by decide +kernel
theorem dX9_ring_15 : decode cX9_ring 15 = .ok (.iconst 1, 1) := by decide +kernel
theorem dX9_ring_16 : decode cX9_ring 16 = .ok (.aload_n 0, 1) := by decide +kernel
theorem dX9_ring_17 : decode cX9_ring 17 = .ok (.getfield 47, 3) := by decide +kernel
theorem dX9_ring_20 : decode cX9_ring 20 = .ok (.iload_n 1, 1) := by decide +kernel
theorem dX9_ring_21 : decode cX9_ring 21 = .ok (.iaload, 1) := by decide +kernel
theorem dX9_ring_22 : decode cX9_ring 22 = .ok (.ishl, 1) := by decide +kernel
theorem dX9_ring_23 : decode cX9_ring 23 = .ok (.ior, 1) := by decide +kernel
theorem dX9_ring_24 : decode cX9_ring 24 = .ok (.putfield 16, 3) := by decide +kernel
theorem dX9_ring_27 : decode cX9_ring 27 = .ok (.aload_n 0, 1) := by decide +kernel
theorem dX9_ring_28 : decode cX9_ring 28 = .ok (.getfield 47, 3) := by decide +kernel
theorem dX9_ring_31 : decode cX9_ring 31 = .ok (.iload_n 1, 1) := by decide +kernel
theorem dX9_ring_32 : decode cX9_ring 32 = .ok (.iaload, 1) := by decide +kernel
theorem dX9_ring_33 : decode cX9_ring 33 = .ok (.ireturn, 1) := by decide +kernel
set_option maxRecDepth 20000 in
theorem ggX9_cross_X9_isFloor : GoodIn wsX9_cross wsX9_isFloor := goodIn_r _ [6, 7, 8, 9, 5, 10] (by decide +kernel) (by decide +kernel)
set_option maxRecDepth 20000 in
theorem gX9_cross_X9_isFloor : GoodIn wsX9_cross (wsV RX9 278 RX9 yX9_isFloor wsX9_isFloor) := goodIn_app (goodIn_of _ (by decide +kernel)) ggX9_cross_X9_isFloor
theorem dX9_cross_0 : decode cX9_cross 0 = .ok (.aload_n 0, 1) := by decide +kernel
theorem dX9_cross_1 : decode cX9_cross 1 = .ok (.iload_n 1, 1) := by decide +kernel
theorem dX9_cross_2 : decode cX9_cross 2 = .ok (.invokevirtual 278, 3) := by decide +kernel
theorem dX9_cross_5 : decode cX9_cross 5 = .ok (.ifCond .eq 11, 3) := by decide +kernel
theorem dX9_cross_8 : decode cX9_cross 8 = .ok (.aload_n 0, 1) := by decide +kernel
theorem dX9_cross_9 : decode cX9_cross 9 = .ok (.iload_n 2, 1) := by decide +kernel
theorem dX9_cross_10 : decode cX9_cross 10 = .ok (.invokevirtual 278, 3) := by decide +kernel
theorem dX9_cross_13 : decode cX9_cross 13 = .ok (.ifCond .ne 5, 3) := by decide +kernel
theorem dX9_cross_16 : decode cX9_cross 16 = .ok (.iconst (-1), 1) := by decide +kernel
theorem dX9_cross_17 : decode cX9_cross 17 = .ok (.ireturn, 1) := by decide +kernel
theorem dX9_cross_18 : decode cX9_cross 18 = .ok (.iload_n 1, 1) := by decide +kernel
theorem dX9_cross_19 : decode cX9_cross 19 = .ok (.iload_n 2, 1) := by decide +kernel
theorem dX9_cross_20 : decode cX9_cross 20 = .ok (.if_icmp .ne 6, 3) := by decide +kernel
theorem dX9_cross_23 : decode cX9_cross 23 = .ok (.bipush (-2), 2) := by decide +kernel
theorem dX9_cross_25 : decode cX9_cross 25 = .ok (.ireturn, 1) := by decide +kernel
theorem dX9_cross_26 : decode cX9_cross 26 = .ok (.aload_n 0, 1) := by decide +kernel
theorem dX9_cross_27 : decode cX9_cross 27 = .ok (.getfield 47, 3) := by decide +kernel
theorem dX9_cross_30 : decode cX9_cross 30 = .ok (.iload_n 1, 1) := by decide +kernel
theorem dX9_cross_31 : decode cX9_cross 31 = .ok (.iaload, 1) := by decide +kernel
theorem dX9_cross_32 : decode cX9_cross 32 = .ok (.istore_n 3, 1) := by decide +kernel
theorem dX9_cross_33 : decode cX9_cross 33 = .ok (.aload_n 0, 1) := by decide +kernel
theorem dX9_cross_34 : decode cX9_cross 34 = .ok (.getfield 47, 3) := by decide +kernel
theorem dX9_cross_37 : decode cX9_cross 37 = .ok (.iload_n 1, 1) := by decide +kernel
theorem dX9_cross_38 : decode cX9_cross 38 = .ok (.aload_n 0, 1) := by decide +kernel
theorem dX9_cross_39 : decode cX9_cross 39 = .ok (.getfield 47, 3) := by decide +kernel
theorem dX9_cross_42 : decode cX9_cross 42 = .ok (.iload_n 2, 1) := by decide +kernel
theorem dX9_cross_43 : decode cX9_cross 43 = .ok (.iaload, 1) := by decide +kernel
theorem dX9_cross_44 : decode cX9_cross 44 = .ok (.iastore, 1) := by decide +kernel
theorem dX9_cross_45 : decode cX9_cross 45 = .ok (.aload_n 0, 1) := by decide +kernel
theorem dX9_cross_46 : decode cX9_cross 46 = .ok (.getfield 47, 3) := by decide +kernel
theorem dX9_cross_49 : decode cX9_cross 49 = .ok (.iload_n 2, 1) := by decide +kernel
theorem dX9_cross_50 : decode cX9_cross 50 = .ok (.iload_n 3, 1) := by decide +kernel
theorem dX9_cross_51 : decode cX9_cross 51 = .ok (.iastore, 1) := by decide +kernel
theorem dX9_cross_52 : decode cX9_cross 52 = .ok (.aload_n 0, 1) := by decide +kernel
theorem dX9_cross_53 : decode cX9_cross 53 = .ok (.getfield 47, 3) := by decide +kernel
theorem dX9_cross_56 : decode cX9_cross 56 = .ok (.iload_n 1, 1) := by decide +kernel
theorem dX9_cross_57 : decode cX9_cross 57 = .ok (.iaload, 1) := by decide +kernel
theorem dX9_cross_58 : decode cX9_cross 58 = .ok (.ireturn, 1) := by decide +kernel
set_option maxRecDepth 20000 in
theorem ggX9_row_X9_isMaster : GoodIn wsX9_row wsX9_isMaster := goodIn_r _ [7, 8, 9, 10, 11, 6, 12, 13, 14, 15, 16, 17, 18, 19, 20, 21, 22, 23, 24, 25, 26, 27, 28, 29, 30, 31, 32, 33, 34, 35, 36, 37, 38, 39, 40, 41, 42, 43, 44, 45, 46, 47, 48, 49, 50, 51, 52, 53, 54, 55, 56, 57, 58, 59, 60, 61, 62, 63, 64, 65, 66, 67, 68, 69, 70, 71, 72, 73, 74, 75, 76, 77, 78, 79, 80, 81, 82, 83, 84, 85, 86, 87, 88, 89, 90, 91, 92, 93, 94, 95, 96, 97] (by decide +kernel) (by decide +kernel)
set_option maxRecDepth 20000 in
theorem gX9_row_X9_isMaster : GoodIn wsX9_row (wsV RX9 282 RX9 yX9_isMaster wsX9_isMaster) := goodIn_app (goodIn_of _ (by decide +kernel)) ggX9_row_X9_isMaster
set_option maxRecDepth 20000 in
theorem ggX9_row_X9_in : GoodIn wsX9_row wsX9_in := goodIn_r _ [12] (by decide +kernel) (by decide +kernel)
set_option maxRecDepth 20000 in
theorem gX9_row_X9_in : GoodIn wsX9_row (wsV RX9 274 RX9 yX9_in wsX9_in) := goodIn_app (goodIn_of _ (by decide +kernel)) ggX9_row_X9_in
theorem dX9_row_0 : decode cX9_row 0 = .ok (.aload_n 0, 1) := by decide +kernel
theorem dX9_row_1 : decode cX9_row 1 = .ok (.iload_n 1, 1) := by decide +kernel
theorem dX9_row_2 : decode cX9_row 2 = .ok (.invokevirtual 282, 3) := by decide +kernel
theorem dX9_row_5 : decode cX9_row 5 = .ok (.ifCond .eq 13, 3) := by decide +kernel
theorem dX9_row_8 : decode cX9_row 8 = .ok (.aload_n 0, 1) := by decide +kernel
theorem dX9_row_9 : decode cX9_row 9 = .ok (.iload_n 2, 1) := by decide +kernel
theorem dX9_row_10 : decode cX9_row 10 = .ok (.iconst 0, 1) := by decide +kernel
theorem dX9_row_11 : decode cX9_row 11 = .ok (.iconst 3, 1) := by decide +kernel
theorem dX9_row_12 : decode cX9_row 12 = .ok (.invokevirtual 274, 3) := by decide +kernel
theorem dX9_row_15 : decode cX9_row 15 = .ok (.ifCond .ne 5, 3) := by decide +kernel
theorem dX9_row_18 : decode cX9_row 18 = .ok (.iconst (-1), 1) := by decide +kernel
theorem dX9_row_19 : decode cX9_row 19 = .ok (.ireturn, 1) := by decide +kernel
theorem dX9_row_20 : decode cX9_row 20 = .ok (.aload_n 0, 1) := by decide +kernel
theorem dX9_row_21 : decode cX9_row 21 = .ok (.iload_n 3, 1) := by decide +kernel
theorem dX9_row_22 : decode cX9_row 22 = .ok (.iconst 0, 1) := by decide +kernel
theorem dX9_row_23 : decode cX9_row 23 = .ok (.bipush 9, 2) := by decide +kernel
theorem dX9_row_25 : decode cX9_row 25 = .ok (.invokevirtual 274, 3) := by decide +kernel
theorem dX9_row_28 : decode cX9_row 28 = .ok (.ifCond .ne 6, 3) := by decide +kernel
theorem dX9_row_31 : decode cX9_row 31 = .ok (.bipush (-2), 2) := by decide +kernel
theorem dX9_row_33 : decode cX9_row 33 = .ok (.ireturn, 1) := by decide +kernel
theorem dX9_row_34 : decode cX9_row 34 = .ok (.aload_n 0, 1) := by decide +kernel
theorem dX9_row_35 : decode cX9_row 35 = .ok (.getfield 25, 3) := by decide +kernel
theorem dX9_row_38 : decode cX9_row 38 = .ok (.iload_n 1, 1) := by decide +kernel
theorem dX9_row_39 : decode cX9_row 39 = .ok (.iaload, 1) := by decide +kernel
theorem dX9_row_40 : decode cX9_row 40 = .ok (.bipush 6, 2) := by decide +kernel
theorem dX9_row_42 : decode cX9_row 42 = .ok (.if_icmp .eq 6, 3) := by decide +kernel
theorem dX9_row_45 : decode cX9_row 45 = .ok (.bipush (-3), 2) := by decide +kernel
theorem dX9_row_47 : decode cX9_row 47 = .ok (.ireturn, 1) := by decide +kernel
theorem dX9_row_48 : decode cX9_row 48 = .ok (.aload_n 0, 1) := by decide +kernel
theorem dX9_row_49 : decode cX9_row 49 = .ok (.getfield 44, 3) := by decide +kernel
theorem dX9_row_52 : decode cX9_row 52 = .ok (.iconst 4, 1) := by decide +kernel
theorem dX9_row_53 : decode cX9_row 53 = .ok (.iload_n 1, 1) := by decide +kernel
theorem dX9_row_54 : decode cX9_row 54 = .ok (.imul, 1) := by decide +kernel
theorem dX9_row_55 : decode cX9_row 55 = .ok (.iload_n 2, 1) := by decide +kernel
theorem dX9_row_56 : decode cX9_row 56 = .ok (.iadd, 1) := by decide +kernel
theorem dX9_row_57 : decode cX9_row 57 = .ok (.iaload, 1) := by decide +kernel
theorem dX9_row_58 : decode cX9_row 58 = .ok (.istore 4, 2) := by decide +kernel
theorem dX9_row_60 : decode cX9_row 60 = .ok (.aload_n 0, 1) := by decide +kernel
theorem dX9_row_61 : decode cX9_row 61 = .ok (.getfield 44, 3) := by decide +kernel
theorem dX9_row_64 : decode cX9_row 64 = .ok (.iconst 4, 1) := by decide +kernel
theorem dX9_row_65 : decode cX9_row 65 = .ok (.iload_n 1, 1) := by decide +kernel
theorem dX9_row_66 : decode cX9_row 66 = .ok (.imul, 1) := by decide +kernel
theorem dX9_row_67 : decode cX9_row 67 = .ok (.iload_n 2, 1) := by decide +kernel
theorem dX9_row_68 : decode cX9_row 68 = .ok (.iadd, 1) := by decide +kernel
theorem dX9_row_69 : decode cX9_row 69 = .ok (.iload_n 3, 1) := by decide +kernel
theorem dX9_row_70 : decode cX9_row 70 = .ok (.iastore, 1) := by decide +kernel
theorem dX9_row_71 : decode cX9_row 71 = .ok (.iload 4, 2) := by decide +kernel
theorem dX9_row_73 : decode cX9_row 73 = .ok (.ireturn, 1) := by decide +kernel
set_option maxRecDepth 20000 in
theorem ggX9_feed_X9_in : GoodIn wsX9_feed wsX9_in := goodIn_r _ [7] (by decide +kernel) (by decide +kernel)
set_option maxRecDepth 20000 in
theorem gX9_feed_X9_in : GoodIn wsX9_feed (wsV RX9 274 RX9 yX9_in wsX9_in) := goodIn_app (goodIn_of _ (by decide +kernel)) ggX9_feed_X9_in
theorem dX9_feed_0 : decode cX9_feed 0 = .ok (.aload_n 0, 1) := by decide +kernel
theorem dX9_feed_1 : decode cX9_feed 1 = .ok (.iload_n 1, 1) := by decide +kernel
theorem dX9_feed_2 : decode cX9_feed 2 = .ok (.iconst 0, 1) := by decide +kernel
theorem dX9_feed_3 : decode cX9_feed 3 = .ok (.bipush 127, 2) := by decide +kernel
theorem dX9_feed_5 : decode cX9_feed 5 = .ok (.invokevirtual 274, 3) := by decide +kernel
theorem dX9_feed_8 : decode cX9_feed 8 = .ok (.ifCond .ne 6, 3) := by decide +kernel
theorem dX9_feed_11 : decode cX9_feed 11 = .ok (.bipush (-2), 2) := by decide +kernel
theorem dX9_feed_13 : decode cX9_feed 13 = .ok (.ireturn, 1) := by decide +kernel
theorem dX9_feed_14 : decode cX9_feed 14 = .ok (.aload_n 0, 1) := by decide +kernel
theorem dX9_feed_15 : decode cX9_feed 15 = .ok (.getfield 56, 3) := by decide +kernel
theorem dX9_feed_18 : decode cX9_feed 18 = .ok (.bipush 100, 2) := by decide +kernel
theorem dX9_feed_20 : decode cX9_feed 20 = .ok (.if_icmp .ne 6, 3) := by decide +kernel
theorem dX9_feed_23 : decode cX9_feed 23 = .ok (.bipush (-4), 2) := by decide +kernel
theorem dX9_feed_25 : decode cX9_feed 25 = .ok (.ireturn, 1) := by decide +kernel
theorem dX9_feed_26 : decode cX9_feed 26 = .ok (.aload_n 0, 1) := by decide +kernel
theorem dX9_feed_27 : decode cX9_feed 27 = .ok (.getfield 65, 3) := by decide +kernel
theorem dX9_feed_30 : decode cX9_feed 30 = .ok (.aload_n 0, 1) := by decide +kernel
theorem dX9_feed_31 : decode cX9_feed 31 = .ok (.getfield 56, 3) := by decide +kernel
theorem dX9_feed_34 : decode cX9_feed 34 = .ok (.iload_n 1, 1) := by decide +kernel
theorem dX9_feed_35 : decode cX9_feed 35 = .ok (.iastore, 1) := by decide +kernel
theorem dX9_feed_36 : decode cX9_feed 36 = .ok (.aload_n 0, 1) := by decide +kernel
theorem dX9_feed_37 : decode cX9_feed 37 = .ok (.dup, 1) := by decide +kernel
theorem dX9_feed_38 : decode cX9_feed 38 = .ok (.getfield 56, 3) := by decide +kernel
theorem dX9_feed_41 : decode cX9_feed 41 = .ok (.iconst 1, 1) := by decide +kernel
theorem dX9_feed_42 : decode cX9_feed 42 = .ok (.iadd, 1) := by decide +kernel
theorem dX9_feed_43 : decode cX9_feed 43 = .ok (.putfield 56, 3) := by decide +kernel
theorem dX9_feed_46 : decode cX9_feed 46 = .ok (.aload_n 0, 1) := by decide +kernel
theorem dX9_feed_47 : decode cX9_feed 47 = .ok (.getfield 56, 3) := by decide +kernel
theorem dX9_feed_50 : decode cX9_feed 50 = .ok (.ireturn, 1) := by decide +kernel
theorem dX9_next_0 : decode cX9_next 0 = .ok (.aload_n 0, 1) := by decide +kernel
theorem dX9_next_1 : decode cX9_next 1 = .ok (.getfield 59, 3) := by decide +kernel
theorem dX9_next_4 : decode cX9_next 4 = .ok (.aload_n 0, 1) := by decide +kernel
theorem dX9_next_5 : decode cX9_next 5 = .ok (.getfield 56, 3) := by decide +kernel
theorem dX9_next_8 : decode cX9_next 8 = .ok (.if_icmp .ge 15, 3) := by decide +kernel
theorem dX9_next_11 : decode cX9_next 11 = .ok (.aload_n 0, 1) := by decide +kernel
theorem dX9_next_12 : decode cX9_next 12 = .ok (.getfield 65, 3) := by decide +kernel
theorem dX9_next_15 : decode cX9_next 15 = .ok (.aload_n 0, 1) := by decide +kernel
theorem dX9_next_16 : decode cX9_next 16 = .ok (.getfield 59, 3) := by decide +kernel
theorem dX9_next_19 : decode cX9_next 19 = .ok (.iaload, 1) := by decide +kernel
theorem dX9_next_20 : decode cX9_next 20 = .ok (.goto 4, 3) := by decide +kernel
theorem dX9_next_23 : decode cX9_next 23 = .ok (.iconst (-1), 1) := by decide +kernel
theorem dX9_next_24 : decode cX9_next 24 = .ok (.ireturn, 1) := by decide +kernel
set_option maxRecDepth 20000 in
theorem ggX9_takes_X9_next : GoodIn wsX9_takes wsX9_next := goodIn_r _ [6, 1, 7, 8, 9, 10, 11, 12, 13, 14, 15, 16, 17, 18, 19, 20, 21, 22, 23, 24, 25, 26, 27, 28, 29, 30, 31, 32, 33, 34, 35, 36, 37, 38, 39, 40, 41, 42, 43, 44, 45, 46, 47, 48, 49, 50, 51, 52, 53, 54, 55, 56, 57, 58, 59, 60, 61, 62, 63, 64, 65, 66, 67, 68, 69, 70, 71, 72, 73, 74, 75, 76, 77, 78, 79, 80, 81, 82, 83, 84, 85, 86, 87, 88, 89, 90, 91, 92, 93] (by decide +kernel) (by decide +kernel)
set_option maxRecDepth 20000 in
theorem gX9_takes_X9_next : GoodIn wsX9_takes (wsV RX9 289 RX9 yX9_next wsX9_next) := goodIn_app (goodIn_of _ (by decide +kernel)) ggX9_takes_X9_next
theorem dX9_takes_0 : decode cX9_takes 0 = .ok (.aload_n 0, 1) := by decide +kernel
theorem dX9_takes_1 : decode cX9_takes 1 = .ok (.invokevirtual 289, 3) := by decide +kernel
theorem dX9_takes_4 : decode cX9_takes 4 = .ok (.iload_n 1, 1) := by decide +kernel
theorem dX9_takes_5 : decode cX9_takes 5 = .ok (.if_icmp .eq 5, 3) := by decide +kernel
theorem dX9_takes_8 : decode cX9_takes 8 = .ok (.iconst 0, 1) := by decide +kernel
theorem dX9_takes_9 : decode cX9_takes 9 = .ok (.ireturn, 1) := by decide +kernel
theorem dX9_takes_10 : decode cX9_takes 10 = .ok (.aload_n 0, 1) := by decide +kernel
theorem dX9_takes_11 : decode cX9_takes 11 = .ok (.dup, 1) := by decide +kernel
theorem dX9_takes_12 : decode cX9_takes 12 = .ok (.getfield 59, 3) := by decide +kernel
theorem dX9_takes_15 : decode cX9_takes 15 = .ok (.iconst 1, 1) := by decide +kernel
theorem dX9_takes_16 : decode cX9_takes 16 = .ok (.iadd, 1) := by decide +kernel
theorem dX9_takes_17 : decode cX9_takes 17 = .ok (.putfield 59, 3) := by decide +kernel
theorem dX9_takes_20 : decode cX9_takes 20 = .ok (.iconst 1, 1) := by decide +kernel
theorem dX9_takes_21 : decode cX9_takes 21 = .ok (.ireturn, 1) := by decide +kernel
set_option maxRecDepth 20000 in
theorem ggX9_takesWord_X9_takes : GoodIn wsX9_takesWord wsX9_takes := goodIn_r _ [6, 7, 8, 9, 10, 5, 11, 12, 13, 14, 15, 16, 17, 18, 19, 20, 21, 22, 23, 24, 25, 26, 27, 28, 29, 30, 31, 32, 33, 34, 35, 36, 37, 38, 39, 40, 41, 42, 43, 44, 45, 46, 47, 48, 49, 50, 51, 52, 53, 54, 55, 56, 57, 58, 59, 60, 61, 62, 63, 64, 65, 66, 67, 68, 69, 70, 71, 72, 73, 74, 75, 76, 77, 78, 79, 80, 81, 82, 83, 84, 85, 86, 87, 88, 89, 90, 91, 92, 93, 94, 95, 96, 97, 98] (by decide +kernel) (by decide +kernel)
set_option maxRecDepth 20000 in
theorem gX9_takesWord_X9_takes : GoodIn wsX9_takesWord (wsV RX9 293 RX9 yX9_takes wsX9_takes) := goodIn_app (goodIn_of _ (by decide +kernel)) ggX9_takesWord_X9_takes
theorem dX9_takesWord_0 : decode cX9_takesWord 0 = .ok (.iconst 0, 1) := by decide +kernel
theorem dX9_takesWord_1 : decode cX9_takesWord 1 = .ok (.istore_n 3, 1) := by decide +kernel
theorem dX9_takesWord_2 : decode cX9_takesWord 2 = .ok (.iload_n 3, 1) := by decide +kernel
theorem dX9_takesWord_3 : decode cX9_takesWord 3 = .ok (.iload_n 2, 1) := by decide +kernel
theorem dX9_takesWord_4 : decode cX9_takesWord 4 = .ok (.if_icmp .ge 26, 3) := by decide +kernel
theorem dX9_takesWord_7 : decode cX9_takesWord 7 = .ok (.aload_n 0, 1) := by decide +kernel
theorem dX9_takesWord_8 : decode cX9_takesWord 8 = .ok (.aload_n 0, 1) := by decide +kernel
theorem dX9_takesWord_9 : decode cX9_takesWord 9 = .ok (.getfield 98, 3) := by decide +kernel
theorem dX9_takesWord_12 : decode cX9_takesWord 12 = .ok (.iload_n 1, 1) := by decide +kernel
theorem dX9_takesWord_13 : decode cX9_takesWord 13 = .ok (.iload_n 3, 1) := by decide +kernel
theorem dX9_takesWord_14 : decode cX9_takesWord 14 = .ok (.iadd, 1) := by decide +kernel
theorem dX9_takesWord_15 : decode cX9_takesWord 15 = .ok (.iaload, 1) := by decide +kernel
theorem dX9_takesWord_16 : decode cX9_takesWord 16 = .ok (.invokevirtual 293, 3) := by decide +kernel
theorem dX9_takesWord_19 : decode cX9_takesWord 19 = .ok (.ifCond .ne 5, 3) := by decide +kernel
theorem dX9_takesWord_22 : decode cX9_takesWord 22 = .ok (.iconst 0, 1) := by decide +kernel
theorem dX9_takesWord_23 : decode cX9_takesWord 23 = .ok (.ireturn, 1) := by decide +kernel
theorem dX9_takesWord_24 : decode cX9_takesWord 24 = .ok (.iinc 3 1, 3) := by decide +kernel
theorem dX9_takesWord_27 : decode cX9_takesWord 27 = .ok (.goto (-25), 3) := by decide +kernel
theorem dX9_takesWord_30 : decode cX9_takesWord 30 = .ok (.aload_n 0, 1) := by decide +kernel
theorem dX9_takesWord_31 : decode cX9_takesWord 31 = .ok (.bipush 32, 2) := by decide +kernel
theorem dX9_takesWord_33 : decode cX9_takesWord 33 = .ok (.invokevirtual 293, 3) := by decide +kernel
theorem dX9_takesWord_36 : decode cX9_takesWord 36 = .ok (.ireturn, 1) := by decide +kernel
set_option maxRecDepth 20000 in
theorem ggX9_isDigit_X9_next : GoodIn wsX9_isDigit wsX9_next := goodIn_r _ [5, 6, 7, 8, 13, 14, 15, 16, 17, 18, 19, 20, 21, 22, 23, 24, 25, 26, 27, 28, 29, 30, 31, 32, 33, 34, 35, 36, 37, 38, 39, 40, 41, 42, 43, 44, 45, 46, 47, 48, 49, 50, 51, 52, 53, 54, 55, 56, 57, 58, 59, 60, 61, 62, 63, 64, 65, 66, 67, 68, 69, 70, 71, 72, 73, 74, 75, 76, 77, 78, 79, 80, 81, 82, 83, 84, 85, 86, 87, 88, 89, 90, 91, 92, 93, 94, 95, 96, 97] (by decide +kernel) (by decide +kernel)
set_option maxRecDepth 20000 in
theorem gX9_isDigit_X9_next : GoodIn wsX9_isDigit (wsV RX9 289 RX9 yX9_next wsX9_next) := goodIn_app (goodIn_of _ (by decide +kernel)) ggX9_isDigit_X9_next
set_option maxRecDepth 20000 in
theorem ggX9_isDigit_X9_in : GoodIn wsX9_isDigit wsX9_in := goodIn_r _ [12] (by decide +kernel) (by decide +kernel)
set_option maxRecDepth 20000 in
theorem gX9_isDigit_X9_in : GoodIn wsX9_isDigit (wsV RX9 274 RX9 yX9_in wsX9_in) := goodIn_app (goodIn_of _ (by decide +kernel)) ggX9_isDigit_X9_in
theorem dX9_isDigit_0 : decode cX9_isDigit 0 = .ok (.aload_n 0, 1) := by decide +kernel
theorem dX9_isDigit_1 : decode cX9_isDigit 1 = .ok (.aload_n 0, 1) := by decide +kernel
theorem dX9_isDigit_2 : decode cX9_isDigit 2 = .ok (.invokevirtual 289, 3) := by decide +kernel
theorem dX9_isDigit_5 : decode cX9_isDigit 5 = .ok (.bipush 48, 2) := by decide +kernel
theorem dX9_isDigit_7 : decode cX9_isDigit 7 = .ok (.bipush 57, 2) := by decide +kernel
theorem dX9_isDigit_9 : decode cX9_isDigit 9 = .ok (.invokevirtual 274, 3) := by decide +kernel
theorem dX9_isDigit_12 : decode cX9_isDigit 12 = .ok (.ireturn, 1) := by decide +kernel
set_option maxRecDepth 20000 in
theorem ggX9_takesNumber_X9_isDigit : GoodIn wsX9_takesNumber wsX9_isDigit := goodIn_r _ [7, 8, 9, 10, 6, 11, 2, 12, 13, 14, 15, 16, 17, 18, 19, 20, 21, 22, 23, 24, 25, 26, 27, 28, 29, 30, 31, 32, 33, 34, 35, 36, 37, 38, 39, 40, 41, 42, 43, 44, 45, 46, 47, 48, 49, 50, 51, 52, 53, 54, 55, 56, 57, 58, 59, 60, 61, 62, 63, 64, 65, 66, 67, 68, 69, 70, 71, 72, 73, 74, 75, 76, 77, 78, 79, 80, 81, 82, 83, 84, 85, 86, 87, 88, 89, 90, 91, 92, 93, 94, 95, 96, 97, 98, 99, 100, 101, 102] (by decide +kernel) (by decide +kernel)
set_option maxRecDepth 20000 in
theorem gX9_takesNumber_X9_isDigit : GoodIn wsX9_takesNumber (wsV RX9 296 RX9 yX9_isDigit wsX9_isDigit) := goodIn_app (goodIn_of _ (by decide +kernel)) ggX9_takesNumber_X9_isDigit
set_option maxRecDepth 20000 in
theorem ggX9_takesNumber_X9_next : GoodIn wsX9_takesNumber wsX9_next := goodIn_r _ [11, 2, 12, 13, 18, 19, 20, 21, 22, 23, 24, 25, 26, 27, 28, 29, 30, 31, 32, 33, 34, 35, 36, 37, 38, 39, 40, 41, 42, 43, 44, 45, 46, 47, 48, 49, 50, 51, 52, 53, 54, 55, 56, 57, 58, 59, 60, 61, 62, 63, 64, 65, 66, 67, 68, 69, 70, 71, 72, 73, 74, 75, 76, 77, 78, 79, 80, 81, 82, 83, 84, 85, 86, 87, 88, 89, 90, 91, 92, 93, 94, 95, 96, 97, 98, 99, 100, 101, 102] (by decide +kernel) (by decide +kernel)
set_option maxRecDepth 20000 in
theorem gX9_takesNumber_X9_next : GoodIn wsX9_takesNumber (wsV RX9 289 RX9 yX9_next wsX9_next) := goodIn_app (goodIn_of _ (by decide +kernel)) ggX9_takesNumber_X9_next
theorem dX9_takesNumber_0 : decode cX9_takesNumber 0 = .ok (.aload_n 0, 1) := by decide +kernel
theorem dX9_takesNumber_1 : decode cX9_takesNumber 1 = .ok (.invokevirtual 296, 3) := by decide +kernel
theorem dX9_takesNumber_4 : decode cX9_takesNumber 4 = .ok (.ifCond .ne 5, 3) := by decide +kernel
theorem dX9_takesNumber_7 : decode cX9_takesNumber 7 = .ok (.iconst 0, 1) := by decide +kernel
theorem dX9_takesNumber_8 : decode cX9_takesNumber 8 = .ok (.ireturn, 1) := by decide +kernel
theorem dX9_takesNumber_9 : decode cX9_takesNumber 9 = .ok (.aload_n 0, 1) := by decide +kernel
theorem dX9_takesNumber_10 : decode cX9_takesNumber 10 = .ok (.iconst 0, 1) := by decide +kernel
theorem dX9_takesNumber_11 : decode cX9_takesNumber 11 = .ok (.putfield 62, 3) := by decide +kernel
theorem dX9_takesNumber_14 : decode cX9_takesNumber 14 = .ok (.iconst 0, 1) := by decide +kernel
theorem dX9_takesNumber_15 : decode cX9_takesNumber 15 = .ok (.istore_n 1, 1) := by decide +kernel
theorem dX9_takesNumber_16 : decode cX9_takesNumber 16 = .ok (.iload_n 1, 1) := by decide +kernel
theorem dX9_takesNumber_17 : decode cX9_takesNumber 17 = .ok (.iconst 2, 1) := by decide +kernel
theorem dX9_takesNumber_18 : decode cX9_takesNumber 18 = .ok (.if_icmp .ge 45, 3) := by decide +kernel
theorem dX9_takesNumber_21 : decode cX9_takesNumber 21 = .ok (.aload_n 0, 1) := by decide +kernel
theorem dX9_takesNumber_22 : decode cX9_takesNumber 22 = .ok (.invokevirtual 296, 3) := by decide +kernel
theorem dX9_takesNumber_25 : decode cX9_takesNumber 25 = .ok (.ifCond .eq 38, 3) := by decide +kernel
theorem dX9_takesNumber_28 : decode cX9_takesNumber 28 = .ok (.aload_n 0, 1) := by decide +kernel
theorem dX9_takesNumber_29 : decode cX9_takesNumber 29 = .ok (.bipush 10, 2) := by decide +kernel
theorem dX9_takesNumber_31 : decode cX9_takesNumber 31 = .ok (.aload_n 0, 1) := by decide +kernel
theorem dX9_takesNumber_32 : decode cX9_takesNumber 32 = .ok (.getfield 62, 3) := by decide +kernel
theorem dX9_takesNumber_35 : decode cX9_takesNumber 35 = .ok (.imul, 1) := by decide +kernel
theorem dX9_takesNumber_36 : decode cX9_takesNumber 36 = .ok (.aload_n 0, 1) := by decide +kernel
theorem dX9_takesNumber_37 : decode cX9_takesNumber 37 = .ok (.invokevirtual 289, 3) := by decide +kernel
theorem dX9_takesNumber_40 : decode cX9_takesNumber 40 = .ok (.iadd, 1) := by decide +kernel
theorem dX9_takesNumber_41 : decode cX9_takesNumber 41 = .ok (.bipush 48, 2) := by decide +kernel
theorem dX9_takesNumber_43 : decode cX9_takesNumber 43 = .ok (.isub, 1) := by decide +kernel
theorem dX9_takesNumber_44 : decode cX9_takesNumber 44 = .ok (.putfield 62, 3) := by decide +kernel
theorem dX9_takesNumber_47 : decode cX9_takesNumber 47 = .ok (.aload_n 0, 1) := by decide +kernel
theorem dX9_takesNumber_48 : decode cX9_takesNumber 48 = .ok (.dup, 1) := by decide +kernel
theorem dX9_takesNumber_49 : decode cX9_takesNumber 49 = .ok (.getfield 59, 3) := by decide +kernel
theorem dX9_takesNumber_52 : decode cX9_takesNumber 52 = .ok (.iconst 1, 1) := by decide +kernel
theorem dX9_takesNumber_53 : decode cX9_takesNumber 53 = .ok (.iadd, 1) := by decide +kernel
theorem dX9_takesNumber_54 : decode cX9_takesNumber 54 = .ok (.putfield 59, 3) := by decide +kernel
theorem dX9_takesNumber_57 : decode cX9_takesNumber 57 = .ok (.iinc 1 1, 3) := by decide +kernel
theorem dX9_takesNumber_60 : decode cX9_takesNumber 60 = .ok (.goto (-44), 3) := by decide +kernel
theorem dX9_takesNumber_63 : decode cX9_takesNumber 63 = .ok (.iconst 1, 1) := by decide +kernel
theorem dX9_takesNumber_64 : decode cX9_takesNumber 64 = .ok (.ireturn, 1) := by decide +kernel
theorem dX9_emits_0 : decode cX9_emits 0 = .ok (.aload_n 0, 1) := by decide +kernel
theorem dX9_emits_1 : decode cX9_emits 1 = .ok (.getfield 83, 3) := by decide +kernel
theorem dX9_emits_4 : decode cX9_emits 4 = .ok (.aload_n 0, 1) := by decide +kernel
theorem dX9_emits_5 : decode cX9_emits 5 = .ok (.getfield 89, 3) := by decide +kernel
theorem dX9_emits_8 : decode cX9_emits 8 = .ok (.iload_n 1, 1) := by decide +kernel
theorem dX9_emits_9 : decode cX9_emits 9 = .ok (.iastore, 1) := by decide +kernel
theorem dX9_emits_10 : decode cX9_emits 10 = .ok (.aload_n 0, 1) := by decide +kernel
theorem dX9_emits_11 : decode cX9_emits 11 = .ok (.dup, 1) := by decide +kernel
theorem dX9_emits_12 : decode cX9_emits 12 = .ok (.getfield 89, 3) := by decide +kernel
theorem dX9_emits_15 : decode cX9_emits 15 = .ok (.iconst 1, 1) := by decide +kernel
theorem dX9_emits_16 : decode cX9_emits 16 = .ok (.iadd, 1) := by decide +kernel
theorem dX9_emits_17 : decode cX9_emits 17 = .ok (.putfield 89, 3) := by decide +kernel
theorem dX9_emits_20 : decode cX9_emits 20 = .ok (.return_, 1) := by decide +kernel
set_option maxRecDepth 20000 in
theorem ggX9_whole_X9_emits : GoodIn wsX9_whole wsX9_emits := goodIn_r _ [8, 9, 10, 11, 12, 13, 14, 15, 16, 17, 18, 19, 20, 21, 22, 23, 24, 25, 26, 27, 28, 29, 30, 31, 32, 33, 34, 35, 36, 37, 38, 39, 40, 41, 42, 43, 44, 45, 46, 47, 48, 49, 50, 51, 52, 53, 54, 55, 56, 57, 58, 59, 60, 61, 62, 63, 64, 65, 66, 67, 68, 69, 70, 71, 72, 73, 74, 75, 76, 77, 78, 79, 80, 81, 82, 83, 84, 85, 86, 87, 88, 89, 90, 91, 92, 93, 94, 95] (by decide +kernel) (by decide +kernel)
set_option maxRecDepth 20000 in
theorem gX9_whole_X9_emits : GoodIn wsX9_whole (wsV RX9 300 RX9 yX9_emits wsX9_emits) := goodIn_app (goodIn_of _ (by decide +kernel)) ggX9_whole_X9_emits
theorem dX9_whole_0 : decode cX9_whole 0 = .ok (.aload_n 0, 1) := by decide +kernel
theorem dX9_whole_1 : decode cX9_whole 1 = .ok (.getfield 92, 3) := by decide +kernel
theorem dX9_whole_4 : decode cX9_whole 4 = .ok (.ifCond .le 48, 3) := by decide +kernel
theorem dX9_whole_7 : decode cX9_whole 7 = .ok (.aload_n 0, 1) := by decide +kernel
theorem dX9_whole_8 : decode cX9_whole 8 = .ok (.getfield 86, 3) := by decide +kernel
theorem dX9_whole_11 : decode cX9_whole 11 = .ok (.aload_n 0, 1) := by decide +kernel
theorem dX9_whole_12 : decode cX9_whole 12 = .ok (.getfield 92, 3) := by decide +kernel
theorem dX9_whole_15 : decode cX9_whole 15 = .ok (.iconst 1, 1) := by decide +kernel
theorem dX9_whole_16 : decode cX9_whole 16 = .ok (.isub, 1) := by decide +kernel
theorem dX9_whole_17 : decode cX9_whole 17 = .ok (.iaload, 1) := by decide +kernel
theorem dX9_whole_18 : decode cX9_whole 18 = .ok (.bipush 33, 2) := by decide +kernel
theorem dX9_whole_20 : decode cX9_whole 20 = .ok (.if_icmp .ne 32, 3) := by decide +kernel
theorem dX9_whole_23 : decode cX9_whole 23 = .ok (.aload_n 0, 1) := by decide +kernel
theorem dX9_whole_24 : decode cX9_whole 24 = .ok (.bipush (-33), 2) := by decide +kernel
theorem dX9_whole_26 : decode cX9_whole 26 = .ok (.invokevirtual 300, 3) := by decide +kernel
theorem dX9_whole_29 : decode cX9_whole 29 = .ok (.aload_n 0, 1) := by decide +kernel
theorem dX9_whole_30 : decode cX9_whole 30 = .ok (.dup, 1) := by decide +kernel
theorem dX9_whole_31 : decode cX9_whole 31 = .ok (.getfield 92, 3) := by decide +kernel
theorem dX9_whole_34 : decode cX9_whole 34 = .ok (.iconst 1, 1) := by decide +kernel
theorem dX9_whole_35 : decode cX9_whole 35 = .ok (.isub, 1) := by decide +kernel
theorem dX9_whole_36 : decode cX9_whole 36 = .ok (.putfield 92, 3) := by decide +kernel
theorem dX9_whole_39 : decode cX9_whole 39 = .ok (.aload_n 0, 1) := by decide +kernel
theorem dX9_whole_40 : decode cX9_whole 40 = .ok (.dup, 1) := by decide +kernel
theorem dX9_whole_41 : decode cX9_whole 41 = .ok (.getfield 95, 3) := by decide +kernel
theorem dX9_whole_44 : decode cX9_whole 44 = .ok (.iconst 1, 1) := by decide +kernel
theorem dX9_whole_45 : decode cX9_whole 45 = .ok (.isub, 1) := by decide +kernel
theorem dX9_whole_46 : decode cX9_whole 46 = .ok (.putfield 95, 3) := by decide +kernel
theorem dX9_whole_49 : decode cX9_whole 49 = .ok (.goto (-49), 3) := by decide +kernel
theorem dX9_whole_52 : decode cX9_whole 52 = .ok (.return_, 1) := by decide +kernel
set_option maxRecDepth 20000 in
theorem ggX9_settle_X9_emits : GoodIn wsX9_settle wsX9_emits := goodIn_r _ [7, 8, 9, 10, 11, 12, 13, 14, 15, 16, 17, 18, 19, 20, 21, 22, 23, 24, 25, 26, 27, 28, 29, 30, 31, 32, 33, 34, 35, 36, 37, 38, 39, 40, 41, 42, 43, 44, 45, 46, 47, 48, 49, 50, 51, 52, 53, 54, 55, 56, 57, 58, 59, 60, 61, 62, 63, 64, 65, 66, 67, 68, 69, 70, 71, 72, 73, 74, 75, 76, 77, 78, 79, 80, 81, 82, 83, 84, 85, 86, 87, 88, 89, 90, 91, 92, 93, 94] (by decide +kernel) (by decide +kernel)
set_option maxRecDepth 20000 in
theorem gX9_settle_X9_emits : GoodIn wsX9_settle (wsV RX9 300 RX9 yX9_emits wsX9_emits) := goodIn_app (goodIn_of _ (by decide +kernel)) ggX9_settle_X9_emits
theorem dX9_settle_0 : decode cX9_settle 0 = .ok (.aload_n 0, 1) := by decide +kernel
theorem dX9_settle_1 : decode cX9_settle 1 = .ok (.getfield 92, 3) := by decide +kernel
theorem dX9_settle_4 : decode cX9_settle 4 = .ok (.ifCond .le 68, 3) := by decide +kernel
theorem dX9_settle_7 : decode cX9_settle 7 = .ok (.aload_n 0, 1) := by decide +kernel
theorem dX9_settle_8 : decode cX9_settle 8 = .ok (.getfield 86, 3) := by decide +kernel
theorem dX9_settle_11 : decode cX9_settle 11 = .ok (.aload_n 0, 1) := by decide +kernel
theorem dX9_settle_12 : decode cX9_settle 12 = .ok (.getfield 92, 3) := by decide +kernel
theorem dX9_settle_15 : decode cX9_settle 15 = .ok (.iconst 1, 1) := by decide +kernel
theorem dX9_settle_16 : decode cX9_settle 16 = .ok (.isub, 1) := by decide +kernel
theorem dX9_settle_17 : decode cX9_settle 17 = .ok (.iaload, 1) := by decide +kernel
theorem dX9_settle_18 : decode cX9_settle 18 = .ok (.bipush 38, 2) := by decide +kernel
theorem dX9_settle_20 : decode cX9_settle 20 = .ok (.if_icmp .eq 25, 3) := by decide +kernel
theorem dX9_settle_23 : decode cX9_settle 23 = .ok (.aload_n 0, 1) := by decide +kernel
theorem dX9_settle_24 : decode cX9_settle 24 = .ok (.getfield 86, 3) := by decide +kernel
theorem dX9_settle_27 : decode cX9_settle 27 = .ok (.aload_n 0, 1) := by decide +kernel
theorem dX9_settle_28 : decode cX9_settle 28 = .ok (.getfield 92, 3) := by decide +kernel
theorem dX9_settle_31 : decode cX9_settle 31 = .ok (.iconst 1, 1) := by decide +kernel
theorem dX9_settle_32 : decode cX9_settle 32 = .ok (.isub, 1) := by decide +kernel
theorem dX9_settle_33 : decode cX9_settle 33 = .ok (.iaload, 1) := by decide +kernel
theorem dX9_settle_34 : decode cX9_settle 34 = .ok (.bipush 124, 2) := by decide +kernel
theorem dX9_settle_36 : decode cX9_settle 36 = .ok (.if_icmp .ne 36, 3) := by decide +kernel
theorem dX9_settle_39 : decode cX9_settle 39 = .ok (.iload_n 1, 1) := by decide +kernel
theorem dX9_settle_40 : decode cX9_settle 40 = .ok (.bipush 38, 2) := by decide +kernel
theorem dX9_settle_42 : decode cX9_settle 42 = .ok (.if_icmp .eq 30, 3) := by decide +kernel
theorem dX9_settle_45 : decode cX9_settle 45 = .ok (.aload_n 0, 1) := by decide +kernel
theorem dX9_settle_46 : decode cX9_settle 46 = .ok (.dup, 1) := by decide +kernel
theorem dX9_settle_47 : decode cX9_settle 47 = .ok (.getfield 92, 3) := by decide +kernel
theorem dX9_settle_50 : decode cX9_settle 50 = .ok (.iconst 1, 1) := by decide +kernel
theorem dX9_settle_51 : decode cX9_settle 51 = .ok (.isub, 1) := by decide +kernel
theorem dX9_settle_52 : decode cX9_settle 52 = .ok (.putfield 92, 3) := by decide +kernel
theorem dX9_settle_55 : decode cX9_settle 55 = .ok (.aload_n 0, 1) := by decide +kernel
theorem dX9_settle_56 : decode cX9_settle 56 = .ok (.aload_n 0, 1) := by decide +kernel
theorem dX9_settle_57 : decode cX9_settle 57 = .ok (.getfield 86, 3) := by decide +kernel
theorem dX9_settle_60 : decode cX9_settle 60 = .ok (.aload_n 0, 1) := by decide +kernel
theorem dX9_settle_61 : decode cX9_settle 61 = .ok (.getfield 92, 3) := by decide +kernel
theorem dX9_settle_64 : decode cX9_settle 64 = .ok (.iaload, 1) := by decide +kernel
theorem dX9_settle_65 : decode cX9_settle 65 = .ok (.ineg, 1) := by decide +kernel
theorem dX9_settle_66 : decode cX9_settle 66 = .ok (.invokevirtual 300, 3) := by decide +kernel
theorem dX9_settle_69 : decode cX9_settle 69 = .ok (.goto (-69), 3) := by decide +kernel
theorem dX9_settle_72 : decode cX9_settle 72 = .ok (.return_, 1) := by decide +kernel
theorem dX9_place_0 : decode cX9_place 0 = .ok (.iload_n 1, 1) := by decide +kernel
theorem dX9_place_1 : decode cX9_place 1 = .ok (.lookupswitch 71 #[(97, 67), (102, 65), (107, 61), (109, 69), (112, 59), (118, 63)], 59) := by decide +kernel
theorem dX9_place_60 : decode cX9_place 60 = .ok (.iconst 0, 1) := by decide +kernel
theorem dX9_place_61 : decode cX9_place 61 = .ok (.ireturn, 1) := by decide +kernel
theorem dX9_place_62 : decode cX9_place 62 = .ok (.iconst 1, 1) := by decide +kernel
theorem dX9_place_63 : decode cX9_place 63 = .ok (.ireturn, 1) := by decide +kernel
theorem dX9_place_64 : decode cX9_place 64 = .ok (.iconst 2, 1) := by decide +kernel
theorem dX9_place_65 : decode cX9_place 65 = .ok (.ireturn, 1) := by decide +kernel
theorem dX9_place_66 : decode cX9_place 66 = .ok (.iconst 3, 1) := by decide +kernel
theorem dX9_place_67 : decode cX9_place 67 = .ok (.ireturn, 1) := by decide +kernel
theorem dX9_place_68 : decode cX9_place 68 = .ok (.iconst 4, 1) := by decide +kernel
theorem dX9_place_69 : decode cX9_place 69 = .ok (.ireturn, 1) := by decide +kernel
theorem dX9_place_70 : decode cX9_place 70 = .ok (.iconst 5, 1) := by decide +kernel
theorem dX9_place_71 : decode cX9_place 71 = .ok (.ireturn, 1) := by decide +kernel
theorem dX9_place_72 : decode cX9_place 72 = .ok (.iconst (-1), 1) := by decide +kernel
theorem dX9_place_73 : decode cX9_place 73 = .ok (.ireturn, 1) := by decide +kernel
set_option maxRecDepth 20000 in
theorem ggX9_takesTest_X9_next : GoodIn wsX9_takesTest wsX9_next := goodIn_r _ [7, 1, 8, 9, 39, 40, 41, 42, 43, 44, 45, 46, 47, 48, 49, 50, 51, 52, 53, 54, 55, 56, 57, 58, 59, 60, 61, 62, 63, 64, 65, 66, 67, 68, 69, 70, 71, 72, 73, 74, 75, 76, 77, 78, 79, 80, 81, 82, 83, 84, 85, 86, 87, 88, 89, 90, 91, 92, 93, 94, 95, 96, 97, 98, 99, 100, 101, 102, 103, 104, 105, 106, 107, 108, 109, 110, 111, 112, 113, 114, 115, 116, 117, 118, 119, 120, 121, 122, 123] (by decide +kernel) (by decide +kernel)
set_option maxRecDepth 20000 in
theorem gX9_takesTest_X9_next : GoodIn wsX9_takesTest (wsV RX9 289 RX9 yX9_next wsX9_next) := goodIn_app (goodIn_of _ (by decide +kernel)) ggX9_takesTest_X9_next
set_option maxRecDepth 20000 in
theorem ggX9_takesTest_X9_place : GoodIn wsX9_takesTest wsX9_place := goodIn_r _ [13] (by decide +kernel) (by decide +kernel)
set_option maxRecDepth 20000 in
theorem gX9_takesTest_X9_place : GoodIn wsX9_takesTest (wsV RX9 304 RX9 yX9_place wsX9_place) := goodIn_app (goodIn_of _ (by decide +kernel)) ggX9_takesTest_X9_place
set_option maxRecDepth 20000 in
theorem ggX9_takesTest_X9_in : GoodIn wsX9_takesTest wsX9_in := goodIn_r _ [17] (by decide +kernel) (by decide +kernel)
set_option maxRecDepth 20000 in
theorem gX9_takesTest_X9_in : GoodIn wsX9_takesTest (wsV RX9 274 RX9 yX9_in wsX9_in) := goodIn_app (goodIn_of _ (by decide +kernel)) ggX9_takesTest_X9_in
set_option maxRecDepth 20000 in
theorem ggX9_takesTest_X9_takesNumber : GoodIn wsX9_takesTest wsX9_takesNumber := goodIn_r _ [21, 2, 1, 22, 23, 24, 6, 25, 3, 4, 5, 7, 8, 9, 14, 15, 16, 17, 39, 40, 41, 42, 43, 44, 45, 46, 47, 48, 49, 50, 51, 52, 53, 54, 55, 56, 57, 58, 59, 60, 61, 62, 63, 64, 65, 66, 67, 68, 69, 70, 71, 72, 73, 74, 75, 76, 77, 78, 79, 80, 81, 82, 83, 84, 85, 86, 87, 88, 89, 90, 91, 92, 93, 94, 95, 96, 97, 98, 99, 100, 101, 102, 103, 104, 105, 106, 107, 108, 109, 110, 111, 112, 113, 114, 115, 116, 117, 118, 119, 120, 121, 122, 123] (by decide +kernel) (by decide +kernel)
set_option maxRecDepth 20000 in
theorem gX9_takesTest_X9_takesNumber : GoodIn wsX9_takesTest (wsV RX9 308 RX9 yX9_takesNumber wsX9_takesNumber) := goodIn_app (goodIn_of _ (by decide +kernel)) ggX9_takesTest_X9_takesNumber
set_option maxRecDepth 20000 in
theorem ggX9_takesTest_X9_emits : GoodIn wsX9_takesTest wsX9_emits := goodIn_r _ [29, 30, 31, 39, 40, 41, 42, 43, 44, 45, 46, 47, 48, 49, 50, 51, 52, 53, 54, 55, 56, 57, 58, 59, 60, 61, 62, 63, 64, 65, 66, 67, 68, 69, 70, 71, 72, 73, 74, 75, 76, 77, 78, 79, 80, 81, 82, 83, 84, 85, 86, 87, 88, 89, 90, 91, 92, 93, 94, 95, 96, 97, 98, 99, 100, 101, 102, 103, 104, 105, 106, 107, 108, 109, 110, 111, 112, 113, 114, 115, 116, 117, 118, 119, 120, 121, 122, 123] (by decide +kernel) (by decide +kernel)
set_option maxRecDepth 20000 in
theorem gX9_takesTest_X9_emits : GoodIn wsX9_takesTest (wsV RX9 300 RX9 yX9_emits wsX9_emits) := goodIn_app (goodIn_of _ (by decide +kernel)) ggX9_takesTest_X9_emits
set_option maxRecDepth 20000 in
theorem ggX9_takesTest_X9_whole : GoodIn wsX9_takesTest wsX9_whole := goodIn_r _ [35, 36, 37, 38, 26, 27, 28, 6, 29, 30, 31, 39, 40, 41, 42, 43, 44, 45, 46, 47, 48, 49, 50, 51, 52, 53, 54, 55, 56, 57, 58, 59, 60, 61, 62, 63, 64, 65, 66, 67, 68, 69, 70, 71, 72, 73, 74, 75, 76, 77, 78, 79, 80, 81, 82, 83, 84, 85, 86, 87, 88, 89, 90, 91, 92, 93, 94, 95, 96, 97, 98, 99, 100, 101, 102, 103, 104, 105, 106, 107, 108, 109, 110, 111, 112, 113, 114, 115, 116, 117, 118, 119, 120, 121, 122, 123] (by decide +kernel) (by decide +kernel)
set_option maxRecDepth 20000 in
theorem gX9_takesTest_X9_whole : GoodIn wsX9_takesTest (wsV RX9 311 RX9 yX9_whole wsX9_whole) := goodIn_app (goodIn_of _ (by decide +kernel)) ggX9_takesTest_X9_whole
theorem dX9_takesTest_0 : decode cX9_takesTest 0 = .ok (.aload_n 0, 1) := by decide +kernel
theorem dX9_takesTest_1 : decode cX9_takesTest 1 = .ok (.aload_n 0, 1) := by decide +kernel
theorem dX9_takesTest_2 : decode cX9_takesTest 2 = .ok (.invokevirtual 289, 3) := by decide +kernel
theorem dX9_takesTest_5 : decode cX9_takesTest 5 = .ok (.invokevirtual 304, 3) := by decide +kernel
theorem dX9_takesTest_8 : decode cX9_takesTest 8 = .ok (.istore_n 1, 1) := by decide +kernel
theorem dX9_takesTest_9 : decode cX9_takesTest 9 = .ok (.iload_n 1, 1) := by decide +kernel
theorem dX9_takesTest_10 : decode cX9_takesTest 10 = .ok (.ifCond .ge 5, 3) := by decide +kernel
theorem dX9_takesTest_13 : decode cX9_takesTest 13 = .ok (.iconst 0, 1) := by decide +kernel
theorem dX9_takesTest_14 : decode cX9_takesTest 14 = .ok (.ireturn, 1) := by decide +kernel
theorem dX9_takesTest_15 : decode cX9_takesTest 15 = .ok (.aload_n 0, 1) := by decide +kernel
theorem dX9_takesTest_16 : decode cX9_takesTest 16 = .ok (.dup, 1) := by decide +kernel
theorem dX9_takesTest_17 : decode cX9_takesTest 17 = .ok (.getfield 59, 3) := by decide +kernel
theorem dX9_takesTest_20 : decode cX9_takesTest 20 = .ok (.iconst 1, 1) := by decide +kernel
theorem dX9_takesTest_21 : decode cX9_takesTest 21 = .ok (.iadd, 1) := by decide +kernel
theorem dX9_takesTest_22 : decode cX9_takesTest 22 = .ok (.putfield 59, 3) := by decide +kernel
theorem dX9_takesTest_25 : decode cX9_takesTest 25 = .ok (.aload_n 0, 1) := by decide +kernel
theorem dX9_takesTest_26 : decode cX9_takesTest 26 = .ok (.invokevirtual 289, 3) := by decide +kernel
theorem dX9_takesTest_29 : decode cX9_takesTest 29 = .ok (.istore_n 2, 1) := by decide +kernel
theorem dX9_takesTest_30 : decode cX9_takesTest 30 = .ok (.aload_n 0, 1) := by decide +kernel
theorem dX9_takesTest_31 : decode cX9_takesTest 31 = .ok (.iload_n 2, 1) := by decide +kernel
theorem dX9_takesTest_32 : decode cX9_takesTest 32 = .ok (.bipush 60, 2) := by decide +kernel
theorem dX9_takesTest_34 : decode cX9_takesTest 34 = .ok (.bipush 62, 2) := by decide +kernel
theorem dX9_takesTest_36 : decode cX9_takesTest 36 = .ok (.invokevirtual 274, 3) := by decide +kernel
theorem dX9_takesTest_39 : decode cX9_takesTest 39 = .ok (.ifCond .ne 5, 3) := by decide +kernel
theorem dX9_takesTest_42 : decode cX9_takesTest 42 = .ok (.iconst 0, 1) := by decide +kernel
theorem dX9_takesTest_43 : decode cX9_takesTest 43 = .ok (.ireturn, 1) := by decide +kernel
theorem dX9_takesTest_44 : decode cX9_takesTest 44 = .ok (.aload_n 0, 1) := by decide +kernel
theorem dX9_takesTest_45 : decode cX9_takesTest 45 = .ok (.dup, 1) := by decide +kernel
theorem dX9_takesTest_46 : decode cX9_takesTest 46 = .ok (.getfield 59, 3) := by decide +kernel
theorem dX9_takesTest_49 : decode cX9_takesTest 49 = .ok (.iconst 1, 1) := by decide +kernel
theorem dX9_takesTest_50 : decode cX9_takesTest 50 = .ok (.iadd, 1) := by decide +kernel
theorem dX9_takesTest_51 : decode cX9_takesTest 51 = .ok (.putfield 59, 3) := by decide +kernel
theorem dX9_takesTest_54 : decode cX9_takesTest 54 = .ok (.aload_n 0, 1) := by decide +kernel
theorem dX9_takesTest_55 : decode cX9_takesTest 55 = .ok (.invokevirtual 308, 3) := by decide +kernel
theorem dX9_takesTest_58 : decode cX9_takesTest 58 = .ok (.ifCond .ne 5, 3) := by decide +kernel
theorem dX9_takesTest_61 : decode cX9_takesTest 61 = .ok (.iconst 0, 1) := by decide +kernel
theorem dX9_takesTest_62 : decode cX9_takesTest 62 = .ok (.ireturn, 1) := by decide +kernel
theorem dX9_takesTest_63 : decode cX9_takesTest 63 = .ok (.aload_n 0, 1) := by decide +kernel
theorem dX9_takesTest_64 : decode cX9_takesTest 64 = .ok (.sipush 1000, 3) := by decide +kernel
theorem dX9_takesTest_67 : decode cX9_takesTest 67 = .ok (.iload_n 1, 1) := by decide +kernel
theorem dX9_takesTest_68 : decode cX9_takesTest 68 = .ok (.imul, 1) := by decide +kernel
theorem dX9_takesTest_69 : decode cX9_takesTest 69 = .ok (.bipush 100, 2) := by decide +kernel
theorem dX9_takesTest_71 : decode cX9_takesTest 71 = .ok (.iload_n 2, 1) := by decide +kernel
theorem dX9_takesTest_72 : decode cX9_takesTest 72 = .ok (.bipush 60, 2) := by decide +kernel
theorem dX9_takesTest_74 : decode cX9_takesTest 74 = .ok (.isub, 1) := by decide +kernel
theorem dX9_takesTest_75 : decode cX9_takesTest 75 = .ok (.imul, 1) := by decide +kernel
theorem dX9_takesTest_76 : decode cX9_takesTest 76 = .ok (.iadd, 1) := by decide +kernel
theorem dX9_takesTest_77 : decode cX9_takesTest 77 = .ok (.aload_n 0, 1) := by decide +kernel
theorem dX9_takesTest_78 : decode cX9_takesTest 78 = .ok (.getfield 62, 3) := by decide +kernel
theorem dX9_takesTest_81 : decode cX9_takesTest 81 = .ok (.iadd, 1) := by decide +kernel
theorem dX9_takesTest_82 : decode cX9_takesTest 82 = .ok (.invokevirtual 300, 3) := by decide +kernel
theorem dX9_takesTest_85 : decode cX9_takesTest 85 = .ok (.aload_n 0, 1) := by decide +kernel
theorem dX9_takesTest_86 : decode cX9_takesTest 86 = .ok (.invokevirtual 311, 3) := by decide +kernel
theorem dX9_takesTest_89 : decode cX9_takesTest 89 = .ok (.iconst 1, 1) := by decide +kernel
theorem dX9_takesTest_90 : decode cX9_takesTest 90 = .ok (.ireturn, 1) := by decide +kernel
set_option maxRecDepth 20000 in
theorem ggX9_takesE_X9_next : GoodIn wsX9_takesE wsX9_next := goodIn_r _ [12, 6, 13, 14, 49, 50, 51, 52, 53, 54, 55, 56, 57, 58, 59, 60, 61, 62, 63, 64, 65, 66, 67, 68, 69, 70, 71, 72, 73, 74, 75, 76, 77, 78, 79, 80, 81, 82, 83, 84, 85, 86, 87, 88, 89, 90, 91, 92, 93, 94, 95, 96, 97, 98, 99, 100, 101, 102, 103, 104, 105, 106, 107, 108, 109, 110, 111, 112, 113, 114, 115, 116, 117, 118, 119, 120, 121, 122, 123, 124, 125, 126, 127, 128, 129, 130, 131, 132, 133] (by decide +kernel) (by decide +kernel)
set_option maxRecDepth 20000 in
theorem gX9_takesE_X9_next : GoodIn wsX9_takesE (wsV RX9 289 RX9 yX9_next wsX9_next) := goodIn_app (goodIn_of _ (by decide +kernel)) ggX9_takesE_X9_next
set_option maxRecDepth 20000 in
theorem ggX9_takesE_X9_takesTest : GoodIn wsX9_takesE wsX9_takesTest := goodIn_r _ [18, 6, 19, 8, 9, 10, 11, 12, 13, 14, 20, 21, 22, 23, 24, 25, 26, 27, 28, 29, 30, 31, 32, 33, 34, 35, 36, 37, 38, 39, 40, 4, 41, 42, 43, 44, 1, 5, 2, 49, 50, 51, 52, 53, 54, 55, 56, 57, 58, 59, 60, 61, 62, 63, 64, 65, 66, 67, 68, 69, 70, 71, 72, 73, 74, 75, 76, 77, 78, 79, 80, 81, 82, 83, 84, 85, 86, 87, 88, 89, 90, 91, 92, 93, 94, 95, 96, 97, 98, 99, 100, 101, 102, 103, 104, 105, 106, 107, 108, 109, 110, 111, 112, 113, 114, 115, 116, 117, 118, 119, 120, 121, 122, 123, 124, 125, 126, 127, 128, 129, 130, 131, 132, 133] (by decide +kernel) (by decide +kernel)
set_option maxRecDepth 20000 in
theorem gX9_takesE_X9_takesTest : GoodIn wsX9_takesE (wsV RX9 314 RX9 yX9_takesTest wsX9_takesTest) := goodIn_app (goodIn_of _ (by decide +kernel)) ggX9_takesE_X9_takesTest
set_option maxRecDepth 20000 in
theorem ggX9_takesE_X9_settle : GoodIn wsX9_takesE wsX9_settle := goodIn_r _ [48, 1, 5, 36, 37, 38, 11, 39, 40, 4, 49, 50, 51, 52, 53, 54, 55, 56, 57, 58, 59, 60, 61, 62, 63, 64, 65, 66, 67, 68, 69, 70, 71, 72, 73, 74, 75, 76, 77, 78, 79, 80, 81, 82, 83, 84, 85, 86, 87, 88, 89, 90, 91, 92, 93, 94, 95, 96, 97, 98, 99, 100, 101, 102, 103, 104, 105, 106, 107, 108, 109, 110, 111, 112, 113, 114, 115, 116, 117, 118, 119, 120, 121, 122, 123, 124, 125, 126, 127, 128, 129, 130, 131, 132, 133] (by decide +kernel) (by decide +kernel)
set_option maxRecDepth 20000 in
theorem gX9_takesE_X9_settle : GoodIn wsX9_takesE (wsV RX9 317 RX9 yX9_settle wsX9_settle) := goodIn_app (goodIn_of _ (by decide +kernel)) ggX9_takesE_X9_settle
set_option maxRecDepth 20000 in
theorem ggX9_takesE_X9_whole : GoodIn wsX9_takesE wsX9_whole := goodIn_r _ [44, 1, 5, 2, 36, 37, 38, 11, 39, 40, 4, 49, 50, 51, 52, 53, 54, 55, 56, 57, 58, 59, 60, 61, 62, 63, 64, 65, 66, 67, 68, 69, 70, 71, 72, 73, 74, 75, 76, 77, 78, 79, 80, 81, 82, 83, 84, 85, 86, 87, 88, 89, 90, 91, 92, 93, 94, 95, 96, 97, 98, 99, 100, 101, 102, 103, 104, 105, 106, 107, 108, 109, 110, 111, 112, 113, 114, 115, 116, 117, 118, 119, 120, 121, 122, 123, 124, 125, 126, 127, 128, 129, 130, 131, 132, 133] (by decide +kernel) (by decide +kernel)
set_option maxRecDepth 20000 in
theorem gX9_takesE_X9_whole : GoodIn wsX9_takesE (wsV RX9 311 RX9 yX9_whole wsX9_whole) := goodIn_app (goodIn_of _ (by decide +kernel)) ggX9_takesE_X9_whole
theorem dX9_takesE_0 : decode cX9_takesE 0 = .ok (.aload_n 0, 1) := by decide +kernel
theorem dX9_takesE_1 : decode cX9_takesE 1 = .ok (.iconst 0, 1) := by decide +kernel
theorem dX9_takesE_2 : decode cX9_takesE 2 = .ok (.putfield 92, 3) := by decide +kernel
theorem dX9_takesE_5 : decode cX9_takesE 5 = .ok (.aload_n 0, 1) := by decide +kernel
theorem dX9_takesE_6 : decode cX9_takesE 6 = .ok (.iconst 0, 1) := by decide +kernel
theorem dX9_takesE_7 : decode cX9_takesE 7 = .ok (.putfield 95, 3) := by decide +kernel
theorem dX9_takesE_10 : decode cX9_takesE 10 = .ok (.aload_n 0, 1) := by decide +kernel
theorem dX9_takesE_11 : decode cX9_takesE 11 = .ok (.getfield 77, 3) := by decide +kernel
theorem dX9_takesE_14 : decode cX9_takesE 14 = .ok (.iload_n 1, 1) := by decide +kernel
theorem dX9_takesE_15 : decode cX9_takesE 15 = .ok (.aload_n 0, 1) := by decide +kernel
theorem dX9_takesE_16 : decode cX9_takesE 16 = .ok (.getfield 89, 3) := by decide +kernel
theorem dX9_takesE_19 : decode cX9_takesE 19 = .ok (.iastore, 1) := by decide +kernel
theorem dX9_takesE_20 : decode cX9_takesE 20 = .ok (.iconst 1, 1) := by decide +kernel
theorem dX9_takesE_21 : decode cX9_takesE 21 = .ok (.istore_n 2, 1) := by decide +kernel
theorem dX9_takesE_22 : decode cX9_takesE 22 = .ok (.aload_n 0, 1) := by decide +kernel
theorem dX9_takesE_23 : decode cX9_takesE 23 = .ok (.invokevirtual 289, 3) := by decide +kernel
theorem dX9_takesE_26 : decode cX9_takesE 26 = .ok (.istore_n 3, 1) := by decide +kernel
theorem dX9_takesE_27 : decode cX9_takesE 27 = .ok (.iload_n 2, 1) := by decide +kernel
theorem dX9_takesE_28 : decode cX9_takesE 28 = .ok (.ifCond .eq 82, 3) := by decide +kernel
theorem dX9_takesE_31 : decode cX9_takesE 31 = .ok (.iload_n 3, 1) := by decide +kernel
theorem dX9_takesE_32 : decode cX9_takesE 32 = .ok (.bipush 33, 2) := by decide +kernel
theorem dX9_takesE_34 : decode cX9_takesE 34 = .ok (.if_icmp .eq 9, 3) := by decide +kernel
theorem dX9_takesE_37 : decode cX9_takesE 37 = .ok (.iload_n 3, 1) := by decide +kernel
theorem dX9_takesE_38 : decode cX9_takesE 38 = .ok (.bipush 40, 2) := by decide +kernel
theorem dX9_takesE_40 : decode cX9_takesE 40 = .ok (.if_icmp .ne 56, 3) := by decide +kernel
theorem dX9_takesE_43 : decode cX9_takesE 43 = .ok (.aload_n 0, 1) := by decide +kernel
theorem dX9_takesE_44 : decode cX9_takesE 44 = .ok (.getfield 95, 3) := by decide +kernel
theorem dX9_takesE_47 : decode cX9_takesE 47 = .ok (.iconst 4, 1) := by decide +kernel
theorem dX9_takesE_48 : decode cX9_takesE 48 = .ok (.if_icmp .ne 5, 3) := by decide +kernel
theorem dX9_takesE_51 : decode cX9_takesE 51 = .ok (.iconst 0, 1) := by decide +kernel
theorem dX9_takesE_52 : decode cX9_takesE 52 = .ok (.ireturn, 1) := by decide +kernel
theorem dX9_takesE_53 : decode cX9_takesE 53 = .ok (.aload_n 0, 1) := by decide +kernel
theorem dX9_takesE_54 : decode cX9_takesE 54 = .ok (.dup, 1) := by decide +kernel
theorem dX9_takesE_55 : decode cX9_takesE 55 = .ok (.getfield 95, 3) := by decide +kernel
theorem dX9_takesE_58 : decode cX9_takesE 58 = .ok (.iconst 1, 1) := by decide +kernel
theorem dX9_takesE_59 : decode cX9_takesE 59 = .ok (.iadd, 1) := by decide +kernel
theorem dX9_takesE_60 : decode cX9_takesE 60 = .ok (.putfield 95, 3) := by decide +kernel
theorem dX9_takesE_63 : decode cX9_takesE 63 = .ok (.aload_n 0, 1) := by decide +kernel
theorem dX9_takesE_64 : decode cX9_takesE 64 = .ok (.getfield 86, 3) := by decide +kernel
theorem dX9_takesE_67 : decode cX9_takesE 67 = .ok (.aload_n 0, 1) := by decide +kernel
theorem dX9_takesE_68 : decode cX9_takesE 68 = .ok (.getfield 92, 3) := by decide +kernel
theorem dX9_takesE_71 : decode cX9_takesE 71 = .ok (.iload_n 3, 1) := by decide +kernel
theorem dX9_takesE_72 : decode cX9_takesE 72 = .ok (.iastore, 1) := by decide +kernel
theorem dX9_takesE_73 : decode cX9_takesE 73 = .ok (.aload_n 0, 1) := by decide +kernel
theorem dX9_takesE_74 : decode cX9_takesE 74 = .ok (.dup, 1) := by decide +kernel
theorem dX9_takesE_75 : decode cX9_takesE 75 = .ok (.getfield 92, 3) := by decide +kernel
theorem dX9_takesE_78 : decode cX9_takesE 78 = .ok (.iconst 1, 1) := by decide +kernel
theorem dX9_takesE_79 : decode cX9_takesE 79 = .ok (.iadd, 1) := by decide +kernel
theorem dX9_takesE_80 : decode cX9_takesE 80 = .ok (.putfield 92, 3) := by decide +kernel
theorem dX9_takesE_83 : decode cX9_takesE 83 = .ok (.aload_n 0, 1) := by decide +kernel
theorem dX9_takesE_84 : decode cX9_takesE 84 = .ok (.dup, 1) := by decide +kernel
theorem dX9_takesE_85 : decode cX9_takesE 85 = .ok (.getfield 59, 3) := by decide +kernel
theorem dX9_takesE_88 : decode cX9_takesE 88 = .ok (.iconst 1, 1) := by decide +kernel
theorem dX9_takesE_89 : decode cX9_takesE 89 = .ok (.iadd, 1) := by decide +kernel
theorem dX9_takesE_90 : decode cX9_takesE 90 = .ok (.putfield 59, 3) := by decide +kernel
theorem dX9_takesE_93 : decode cX9_takesE 93 = .ok (.goto (-71), 3) := by decide +kernel
theorem dX9_takesE_96 : decode cX9_takesE 96 = .ok (.aload_n 0, 1) := by decide +kernel
theorem dX9_takesE_97 : decode cX9_takesE 97 = .ok (.invokevirtual 314, 3) := by decide +kernel
theorem dX9_takesE_100 : decode cX9_takesE 100 = .ok (.ifCond .eq 8, 3) := by decide +kernel
theorem dX9_takesE_103 : decode cX9_takesE 103 = .ok (.iconst 0, 1) := by decide +kernel
theorem dX9_takesE_104 : decode cX9_takesE 104 = .ok (.istore_n 2, 1) := by decide +kernel
theorem dX9_takesE_105 : decode cX9_takesE 105 = .ok (.goto (-83), 3) := by decide +kernel
theorem dX9_takesE_108 : decode cX9_takesE 108 = .ok (.iconst 0, 1) := by decide +kernel
theorem dX9_takesE_109 : decode cX9_takesE 109 = .ok (.ireturn, 1) := by decide +kernel
theorem dX9_takesE_110 : decode cX9_takesE 110 = .ok (.iload_n 3, 1) := by decide +kernel
theorem dX9_takesE_111 : decode cX9_takesE 111 = .ok (.bipush 38, 2) := by decide +kernel
theorem dX9_takesE_113 : decode cX9_takesE 113 = .ok (.if_icmp .eq 9, 3) := by decide +kernel
theorem dX9_takesE_116 : decode cX9_takesE 116 = .ok (.iload_n 3, 1) := by decide +kernel
theorem dX9_takesE_117 : decode cX9_takesE 117 = .ok (.bipush 124, 2) := by decide +kernel
theorem dX9_takesE_119 : decode cX9_takesE 119 = .ok (.if_icmp .ne 43, 3) := by decide +kernel
theorem dX9_takesE_122 : decode cX9_takesE 122 = .ok (.aload_n 0, 1) := by decide +kernel
theorem dX9_takesE_123 : decode cX9_takesE 123 = .ok (.iload_n 3, 1) := by decide +kernel
theorem dX9_takesE_124 : decode cX9_takesE 124 = .ok (.invokevirtual 317, 3) := by decide +kernel
theorem dX9_takesE_127 : decode cX9_takesE 127 = .ok (.aload_n 0, 1) := by decide +kernel
theorem dX9_takesE_128 : decode cX9_takesE 128 = .ok (.getfield 86, 3) := by decide +kernel
theorem dX9_takesE_131 : decode cX9_takesE 131 = .ok (.aload_n 0, 1) := by decide +kernel
theorem dX9_takesE_132 : decode cX9_takesE 132 = .ok (.getfield 92, 3) := by decide +kernel
theorem dX9_takesE_135 : decode cX9_takesE 135 = .ok (.iload_n 3, 1) := by decide +kernel
theorem dX9_takesE_136 : decode cX9_takesE 136 = .ok (.iastore, 1) := by decide +kernel
theorem dX9_takesE_137 : decode cX9_takesE 137 = .ok (.aload_n 0, 1) := by decide +kernel
theorem dX9_takesE_138 : decode cX9_takesE 138 = .ok (.dup, 1) := by decide +kernel
theorem dX9_takesE_139 : decode cX9_takesE 139 = .ok (.getfield 92, 3) := by decide +kernel
theorem dX9_takesE_142 : decode cX9_takesE 142 = .ok (.iconst 1, 1) := by decide +kernel
theorem dX9_takesE_143 : decode cX9_takesE 143 = .ok (.iadd, 1) := by decide +kernel
theorem dX9_takesE_144 : decode cX9_takesE 144 = .ok (.putfield 92, 3) := by decide +kernel
theorem dX9_takesE_147 : decode cX9_takesE 147 = .ok (.iconst 1, 1) := by decide +kernel
theorem dX9_takesE_148 : decode cX9_takesE 148 = .ok (.istore_n 2, 1) := by decide +kernel
theorem dX9_takesE_149 : decode cX9_takesE 149 = .ok (.aload_n 0, 1) := by decide +kernel
theorem dX9_takesE_150 : decode cX9_takesE 150 = .ok (.dup, 1) := by decide +kernel
theorem dX9_takesE_151 : decode cX9_takesE 151 = .ok (.getfield 59, 3) := by decide +kernel
theorem dX9_takesE_154 : decode cX9_takesE 154 = .ok (.iconst 1, 1) := by decide +kernel
theorem dX9_takesE_155 : decode cX9_takesE 155 = .ok (.iadd, 1) := by decide +kernel
theorem dX9_takesE_156 : decode cX9_takesE 156 = .ok (.putfield 59, 3) := by decide +kernel
theorem dX9_takesE_159 : decode cX9_takesE 159 = .ok (.goto (-137), 3) := by decide +kernel
theorem dX9_takesE_162 : decode cX9_takesE 162 = .ok (.aload_n 0, 1) := by decide +kernel
theorem dX9_takesE_163 : decode cX9_takesE 163 = .ok (.bipush 124, 2) := by decide +kernel
theorem dX9_takesE_165 : decode cX9_takesE 165 = .ok (.invokevirtual 317, 3) := by decide +kernel
theorem dX9_takesE_168 : decode cX9_takesE 168 = .ok (.aload_n 0, 1) := by decide +kernel
theorem dX9_takesE_169 : decode cX9_takesE 169 = .ok (.getfield 80, 3) := by decide +kernel
theorem dX9_takesE_172 : decode cX9_takesE 172 = .ok (.iload_n 1, 1) := by decide +kernel
theorem dX9_takesE_173 : decode cX9_takesE 173 = .ok (.aload_n 0, 1) := by decide +kernel
theorem dX9_takesE_174 : decode cX9_takesE 174 = .ok (.getfield 89, 3) := by decide +kernel
theorem dX9_takesE_177 : decode cX9_takesE 177 = .ok (.iastore, 1) := by decide +kernel
theorem dX9_takesE_178 : decode cX9_takesE 178 = .ok (.aload_n 0, 1) := by decide +kernel
theorem dX9_takesE_179 : decode cX9_takesE 179 = .ok (.getfield 92, 3) := by decide +kernel
theorem dX9_takesE_182 : decode cX9_takesE 182 = .ok (.ifCond .ne 5, 3) := by decide +kernel
theorem dX9_takesE_185 : decode cX9_takesE 185 = .ok (.iconst 1, 1) := by decide +kernel
theorem dX9_takesE_186 : decode cX9_takesE 186 = .ok (.ireturn, 1) := by decide +kernel
theorem dX9_takesE_187 : decode cX9_takesE 187 = .ok (.iload_n 3, 1) := by decide +kernel
theorem dX9_takesE_188 : decode cX9_takesE 188 = .ok (.bipush 41, 2) := by decide +kernel
theorem dX9_takesE_190 : decode cX9_takesE 190 = .ok (.if_icmp .eq 5, 3) := by decide +kernel
theorem dX9_takesE_193 : decode cX9_takesE 193 = .ok (.iconst 0, 1) := by decide +kernel
theorem dX9_takesE_194 : decode cX9_takesE 194 = .ok (.ireturn, 1) := by decide +kernel
theorem dX9_takesE_195 : decode cX9_takesE 195 = .ok (.aload_n 0, 1) := by decide +kernel
theorem dX9_takesE_196 : decode cX9_takesE 196 = .ok (.dup, 1) := by decide +kernel
theorem dX9_takesE_197 : decode cX9_takesE 197 = .ok (.getfield 92, 3) := by decide +kernel
theorem dX9_takesE_200 : decode cX9_takesE 200 = .ok (.iconst 1, 1) := by decide +kernel
theorem dX9_takesE_201 : decode cX9_takesE 201 = .ok (.isub, 1) := by decide +kernel
theorem dX9_takesE_202 : decode cX9_takesE 202 = .ok (.putfield 92, 3) := by decide +kernel
theorem dX9_takesE_205 : decode cX9_takesE 205 = .ok (.aload_n 0, 1) := by decide +kernel
theorem dX9_takesE_206 : decode cX9_takesE 206 = .ok (.dup, 1) := by decide +kernel
theorem dX9_takesE_207 : decode cX9_takesE 207 = .ok (.getfield 95, 3) := by decide +kernel
theorem dX9_takesE_210 : decode cX9_takesE 210 = .ok (.iconst 1, 1) := by decide +kernel
theorem dX9_takesE_211 : decode cX9_takesE 211 = .ok (.isub, 1) := by decide +kernel
theorem dX9_takesE_212 : decode cX9_takesE 212 = .ok (.putfield 95, 3) := by decide +kernel
theorem dX9_takesE_215 : decode cX9_takesE 215 = .ok (.aload_n 0, 1) := by decide +kernel
theorem dX9_takesE_216 : decode cX9_takesE 216 = .ok (.dup, 1) := by decide +kernel
theorem dX9_takesE_217 : decode cX9_takesE 217 = .ok (.getfield 59, 3) := by decide +kernel
theorem dX9_takesE_220 : decode cX9_takesE 220 = .ok (.iconst 1, 1) := by decide +kernel
theorem dX9_takesE_221 : decode cX9_takesE 221 = .ok (.iadd, 1) := by decide +kernel
theorem dX9_takesE_222 : decode cX9_takesE 222 = .ok (.putfield 59, 3) := by decide +kernel
theorem dX9_takesE_225 : decode cX9_takesE 225 = .ok (.aload_n 0, 1) := by decide +kernel
theorem dX9_takesE_226 : decode cX9_takesE 226 = .ok (.invokevirtual 311, 3) := by decide +kernel
theorem dX9_takesE_229 : decode cX9_takesE 229 = .ok (.goto (-207), 3) := by decide +kernel
set_option maxRecDepth 20000 in
theorem ggX9_takesHead_X9_next : GoodIn wsX9_takesHead wsX9_next := goodIn_r _ [6, 7, 8, 9, 19, 20, 21, 22, 23, 24, 25, 26, 27, 28, 29, 30, 31, 32, 33, 34, 35, 36, 37, 38, 39, 40, 41, 42, 43, 44, 45, 46, 47, 48, 49, 50, 51, 52, 53, 54, 55, 56, 57, 58, 59, 60, 61, 62, 63, 64, 65, 66, 67, 68, 69, 70, 71, 72, 73, 74, 75, 76, 77, 78, 79, 80, 81, 82, 83, 84, 85, 86, 87, 88, 89, 90, 91, 92, 93, 94, 95, 96, 97, 98, 99, 100, 101, 102, 103] (by decide +kernel) (by decide +kernel)
set_option maxRecDepth 20000 in
theorem gX9_takesHead_X9_next : GoodIn wsX9_takesHead (wsV RX9 289 RX9 yX9_next wsX9_next) := goodIn_app (goodIn_of _ (by decide +kernel)) ggX9_takesHead_X9_next
set_option maxRecDepth 20000 in
theorem ggX9_takesHead_X9_takesWord : GoodIn wsX9_takesHead wsX9_takesWord := goodIn_r _ [13, 14, 15, 16, 17, 5, 18, 7, 2, 3, 4, 6, 8, 9, 19, 20, 21, 22, 23, 24, 25, 26, 27, 28, 29, 30, 31, 32, 33, 34, 35, 36, 37, 38, 39, 40, 41, 42, 43, 44, 45, 46, 47, 48, 49, 50, 51, 52, 53, 54, 55, 56, 57, 58, 59, 60, 61, 62, 63, 64, 65, 66, 67, 68, 69, 70, 71, 72, 73, 74, 75, 76, 77, 78, 79, 80, 81, 82, 83, 84, 85, 86, 87, 88, 89, 90, 91, 92, 93, 94, 95, 96, 97, 98, 99, 100, 101, 102, 103] (by decide +kernel) (by decide +kernel)
set_option maxRecDepth 20000 in
theorem gX9_takesHead_X9_takesWord : GoodIn wsX9_takesHead (wsV RX9 320 RX9 yX9_takesWord wsX9_takesWord) := goodIn_app (goodIn_of _ (by decide +kernel)) ggX9_takesHead_X9_takesWord
theorem dX9_takesHead_0 : decode cX9_takesHead 0 = .ok (.aload_n 0, 1) := by decide +kernel
theorem dX9_takesHead_1 : decode cX9_takesHead 1 = .ok (.invokevirtual 289, 3) := by decide +kernel
theorem dX9_takesHead_4 : decode cX9_takesHead 4 = .ok (.lookupswitch 56 #[(107, 42), (115, 28)], 28) := by decide +kernel
theorem dX9_takesHead_32 : decode cX9_takesHead 32 = .ok (.aload_n 0, 1) := by decide +kernel
theorem dX9_takesHead_33 : decode cX9_takesHead 33 = .ok (.getfield 71, 3) := by decide +kernel
theorem dX9_takesHead_36 : decode cX9_takesHead 36 = .ok (.iload_n 1, 1) := by decide +kernel
theorem dX9_takesHead_37 : decode cX9_takesHead 37 = .ok (.iconst 0, 1) := by decide +kernel
theorem dX9_takesHead_38 : decode cX9_takesHead 38 = .ok (.iastore, 1) := by decide +kernel
theorem dX9_takesHead_39 : decode cX9_takesHead 39 = .ok (.aload_n 0, 1) := by decide +kernel
theorem dX9_takesHead_40 : decode cX9_takesHead 40 = .ok (.iconst 0, 1) := by decide +kernel
theorem dX9_takesHead_41 : decode cX9_takesHead 41 = .ok (.iconst 4, 1) := by decide +kernel
theorem dX9_takesHead_42 : decode cX9_takesHead 42 = .ok (.invokevirtual 320, 3) := by decide +kernel
theorem dX9_takesHead_45 : decode cX9_takesHead 45 = .ok (.ireturn, 1) := by decide +kernel
theorem dX9_takesHead_46 : decode cX9_takesHead 46 = .ok (.aload_n 0, 1) := by decide +kernel
theorem dX9_takesHead_47 : decode cX9_takesHead 47 = .ok (.getfield 71, 3) := by decide +kernel
theorem dX9_takesHead_50 : decode cX9_takesHead 50 = .ok (.iload_n 1, 1) := by decide +kernel
theorem dX9_takesHead_51 : decode cX9_takesHead 51 = .ok (.iconst 1, 1) := by decide +kernel
theorem dX9_takesHead_52 : decode cX9_takesHead 52 = .ok (.iastore, 1) := by decide +kernel
theorem dX9_takesHead_53 : decode cX9_takesHead 53 = .ok (.aload_n 0, 1) := by decide +kernel
theorem dX9_takesHead_54 : decode cX9_takesHead 54 = .ok (.iconst 4, 1) := by decide +kernel
theorem dX9_takesHead_55 : decode cX9_takesHead 55 = .ok (.iconst 4, 1) := by decide +kernel
theorem dX9_takesHead_56 : decode cX9_takesHead 56 = .ok (.invokevirtual 320, 3) := by decide +kernel
theorem dX9_takesHead_59 : decode cX9_takesHead 59 = .ok (.ireturn, 1) := by decide +kernel
theorem dX9_takesHead_60 : decode cX9_takesHead 60 = .ok (.aload_n 0, 1) := by decide +kernel
theorem dX9_takesHead_61 : decode cX9_takesHead 61 = .ok (.getfield 71, 3) := by decide +kernel
theorem dX9_takesHead_64 : decode cX9_takesHead 64 = .ok (.iload_n 1, 1) := by decide +kernel
theorem dX9_takesHead_65 : decode cX9_takesHead 65 = .ok (.iconst 2, 1) := by decide +kernel
theorem dX9_takesHead_66 : decode cX9_takesHead 66 = .ok (.iastore, 1) := by decide +kernel
