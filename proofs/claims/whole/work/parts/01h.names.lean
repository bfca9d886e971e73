theorem dX9_layShared_63 : decode cX9_layShared 63 = .ok (.iadd, 1) := by decide +kernel
theorem dX9_layShared_64 : decode cX9_layShared 64 = .ok (.iconst 0, 1) := by decide +kernel
theorem dX9_layShared_65 : decode cX9_layShared 65 = .ok (.iastore, 1) := by decide +kernel
theorem dX9_layShared_66 : decode cX9_layShared 66 = .ok (.aload_n 0, 1) := by decide +kernel
theorem dX9_layShared_67 : decode cX9_layShared 67 = .ok (.getfield 139, 3) := by decide +kernel
theorem dX9_layShared_70 : decode cX9_layShared 70 = .ok (.sipush 640, 3) := by decide +kernel
theorem dX9_layShared_73 : decode cX9_layShared 73 = .ok (.iload_n 1, 1) := by decide +kernel
theorem dX9_layShared_74 : decode cX9_layShared 74 = .ok (.iadd, 1) := by decide +kernel
theorem dX9_layShared_75 : decode cX9_layShared 75 = .ok (.iconst 0, 1) := by decide +kernel
theorem dX9_layShared_76 : decode cX9_layShared 76 = .ok (.iastore, 1) := by decide +kernel
theorem dX9_layShared_77 : decode cX9_layShared 77 = .ok (.iinc 1 1, 3) := by decide +kernel
theorem dX9_layShared_80 : decode cX9_layShared 80 = .ok (.goto (-31), 3) := by decide +kernel
theorem dX9_layShared_83 : decode cX9_layShared 83 = .ok (.bipush 9, 2) := by decide +kernel
theorem dX9_layShared_85 : decode cX9_layShared 85 = .ok (.istore_n 1, 1) := by decide +kernel
theorem dX9_layShared_86 : decode cX9_layShared 86 = .ok (.iload_n 1, 1) := by decide +kernel
theorem dX9_layShared_87 : decode cX9_layShared 87 = .ok (.ifCond .lt 29, 3) := by decide +kernel
theorem dX9_layShared_90 : decode cX9_layShared 90 = .ok (.iconst 0, 1) := by decide +kernel
theorem dX9_layShared_91 : decode cX9_layShared 91 = .ok (.istore_n 2, 1) := by decide +kernel
theorem dX9_layShared_92 : decode cX9_layShared 92 = .ok (.iload_n 2, 1) := by decide +kernel
theorem dX9_layShared_93 : decode cX9_layShared 93 = .ok (.bipush 64, 2) := by decide +kernel
theorem dX9_layShared_95 : decode cX9_layShared 95 = .ok (.if_icmp .ge 15, 3) := by decide +kernel
theorem dX9_layShared_98 : decode cX9_layShared 98 = .ok (.aload_n 0, 1) := by decide +kernel
theorem dX9_layShared_99 : decode cX9_layShared 99 = .ok (.iload_n 1, 1) := by decide +kernel
theorem dX9_layShared_100 : decode cX9_layShared 100 = .ok (.iload_n 2, 1) := by decide +kernel
theorem dX9_layShared_101 : decode cX9_layShared 101 = .ok (.invokevirtual 422, 3) := by decide +kernel
theorem dX9_layShared_104 : decode cX9_layShared 104 = .ok (.iinc 2 1, 3) := by decide +kernel
theorem dX9_layShared_107 : decode cX9_layShared 107 = .ok (.goto (-15), 3) := by decide +kernel
theorem dX9_layShared_110 : decode cX9_layShared 110 = .ok (.iinc 1 (-1), 3) := by decide +kernel
theorem dX9_layShared_113 : decode cX9_layShared 113 = .ok (.goto (-27), 3) := by decide +kernel
theorem dX9_layShared_116 : decode cX9_layShared 116 = .ok (.return_, 1) := by decide +kernel
set_option maxRecDepth 20000 in
theorem ggX9_layFloor_X9_isOpen : GoodIn wsX9_layFloor wsX9_isOpen := goodIn_r _ [9, 10, 11, 12, 13, 8, 14, 15, 16, 17, 18, 3, 19, 26, 27, 28, 29, 30, 31, 32, 33, 34, 35, 36, 37, 38, 39, 40, 41, 42, 43, 44, 45, 46, 47, 48, 49, 50, 51, 52, 53, 54, 55, 56, 57, 58, 59, 60, 61, 62, 63, 64, 65, 66, 67, 68, 69, 70, 71, 72, 73, 74, 75, 76, 77, 78, 79, 80, 81, 82, 83, 84, 85, 86, 87, 88, 89, 90, 91, 92, 93, 94, 95, 96, 97, 98, 99, 100, 101, 102, 103, 104, 105, 106, 107, 108, 109, 110] (by decide +kernel) (by decide +kernel)
set_option maxRecDepth 20000 in
theorem gX9_layFloor_X9_isOpen : GoodIn wsX9_layFloor (wsV RX9 364 RX9 yX9_isOpen wsX9_isOpen) := goodIn_app (goodIn_of _ (by decide +kernel)) ggX9_layFloor_X9_isOpen
set_option maxRecDepth 20000 in
theorem ggX9_layFloor_X9_has : GoodIn wsX9_layFloor wsX9_has := goodIn_r _ [14] (by decide +kernel) (by decide +kernel)
set_option maxRecDepth 20000 in
theorem gX9_layFloor_X9_has : GoodIn wsX9_layFloor (wsV RX9 270 RX9 yX9_has wsX9_has) := goodIn_app (goodIn_of _ (by decide +kernel)) ggX9_layFloor_X9_has
set_option maxRecDepth 20000 in
theorem ggX9_layFloor_X9_isFree : GoodIn wsX9_layFloor wsX9_isFree := goodIn_r _ [23, 24, 19, 25, 11, 12, 13, 8, 14, 26, 27, 28, 29, 30, 31, 32, 33, 34, 35, 36, 37, 38, 39, 40, 41, 42, 43, 44, 45, 46, 47, 48, 49, 50, 51, 52, 53, 54, 55, 56, 57, 58, 59, 60, 61, 62, 63, 64, 65, 66, 67, 68, 69, 70, 71, 72, 73, 74, 75, 76, 77, 78, 79, 80, 81, 82, 83, 84, 85, 86, 87, 88, 89, 90, 91, 92, 93, 94, 95, 96, 97, 98, 99, 100, 101, 102, 103, 104, 105, 106, 107, 108, 109, 110] (by decide +kernel) (by decide +kernel)
set_option maxRecDepth 20000 in
theorem gX9_layFloor_X9_isFree : GoodIn wsX9_layFloor (wsV RX9 355 RX9 yX9_isFree wsX9_isFree) := goodIn_app (goodIn_of _ (by decide +kernel)) ggX9_layFloor_X9_isFree
theorem dX9_layFloor_0 : decode cX9_layFloor 0 = .ok (.bipush 64, 2) := by decide +kernel
theorem dX9_layFloor_2 : decode cX9_layFloor 2 = .ok (.iload_n 1, 1) := by decide +kernel
theorem dX9_layFloor_3 : decode cX9_layFloor 3 = .ok (.imul, 1) := by decide +kernel
theorem dX9_layFloor_4 : decode cX9_layFloor 4 = .ok (.iload_n 2, 1) := by decide +kernel
theorem dX9_layFloor_5 : decode cX9_layFloor 5 = .ok (.iadd, 1) := by decide +kernel
theorem dX9_layFloor_6 : decode cX9_layFloor 6 = .ok (.istore_n 3, 1) := by decide +kernel
theorem dX9_layFloor_7 : decode cX9_layFloor 7 = .ok (.aload_n 0, 1) := by decide +kernel
theorem dX9_layFloor_8 : decode cX9_layFloor 8 = .ok (.getfield 136, 3) := by decide +kernel
theorem dX9_layFloor_11 : decode cX9_layFloor 11 = .ok (.iload_n 3, 1) := by decide +kernel
theorem dX9_layFloor_12 : decode cX9_layFloor 12 = .ok (.aload_n 0, 1) := by decide +kernel
theorem dX9_layFloor_13 : decode cX9_layFloor 13 = .ok (.getfield 136, 3) := by decide +kernel
theorem dX9_layFloor_16 : decode cX9_layFloor 16 = .ok (.iload_n 3, 1) := by decide +kernel
theorem dX9_layFloor_17 : decode cX9_layFloor 17 = .ok (.bipush 64, 2) := by decide +kernel
theorem dX9_layFloor_19 : decode cX9_layFloor 19 = .ok (.iadd, 1) := by decide +kernel
theorem dX9_layFloor_20 : decode cX9_layFloor 20 = .ok (.iaload, 1) := by decide +kernel
theorem dX9_layFloor_21 : decode cX9_layFloor 21 = .ok (.iastore, 1) := by decide +kernel
theorem dX9_layFloor_22 : decode cX9_layFloor 22 = .ok (.aload_n 0, 1) := by decide +kernel
theorem dX9_layFloor_23 : decode cX9_layFloor 23 = .ok (.getfield 139, 3) := by decide +kernel
theorem dX9_layFloor_26 : decode cX9_layFloor 26 = .ok (.iload_n 3, 1) := by decide +kernel
theorem dX9_layFloor_27 : decode cX9_layFloor 27 = .ok (.aload_n 0, 1) := by decide +kernel
theorem dX9_layFloor_28 : decode cX9_layFloor 28 = .ok (.getfield 139, 3) := by decide +kernel
theorem dX9_layFloor_31 : decode cX9_layFloor 31 = .ok (.iload_n 3, 1) := by decide +kernel
theorem dX9_layFloor_32 : decode cX9_layFloor 32 = .ok (.bipush 64, 2) := by decide +kernel
theorem dX9_layFloor_34 : decode cX9_layFloor 34 = .ok (.iadd, 1) := by decide +kernel
theorem dX9_layFloor_35 : decode cX9_layFloor 35 = .ok (.iaload, 1) := by decide +kernel
theorem dX9_layFloor_36 : decode cX9_layFloor 36 = .ok (.iastore, 1) := by decide +kernel
theorem dX9_layFloor_37 : decode cX9_layFloor 37 = .ok (.iconst 0, 1) := by decide +kernel
theorem dX9_layFloor_38 : decode cX9_layFloor 38 = .ok (.istore 4, 2) := by decide +kernel
theorem dX9_layFloor_40 : decode cX9_layFloor 40 = .ok (.iload 4, 2) := by decide +kernel
theorem dX9_layFloor_42 : decode cX9_layFloor 42 = .ok (.aload_n 0, 1) := by decide +kernel
theorem dX9_layFloor_43 : decode cX9_layFloor 43 = .ok (.getfield 7, 3) := by decide +kernel
theorem dX9_layFloor_46 : decode cX9_layFloor 46 = .ok (.if_icmp .ge 140, 3) := by decide +kernel
theorem dX9_layFloor_49 : decode cX9_layFloor 49 = .ok (.aload_n 0, 1) := by decide +kernel
theorem dX9_layFloor_50 : decode cX9_layFloor 50 = .ok (.iload_n 1, 1) := by decide +kernel
theorem dX9_layFloor_51 : decode cX9_layFloor 51 = .ok (.invokevirtual 364, 3) := by decide +kernel
theorem dX9_layFloor_54 : decode cX9_layFloor 54 = .ok (.ifCond .eq 132, 3) := by decide +kernel
theorem dX9_layFloor_57 : decode cX9_layFloor 57 = .ok (.aload_n 0, 1) := by decide +kernel
theorem dX9_layFloor_58 : decode cX9_layFloor 58 = .ok (.iload_n 2, 1) := by decide +kernel
theorem dX9_layFloor_59 : decode cX9_layFloor 59 = .ok (.iload 4, 2) := by decide +kernel
theorem dX9_layFloor_61 : decode cX9_layFloor 61 = .ok (.invokevirtual 270, 3) := by decide +kernel
theorem dX9_layFloor_64 : decode cX9_layFloor 64 = .ok (.ifCond .ne 116, 3) := by decide +kernel
theorem dX9_layFloor_67 : decode cX9_layFloor 67 = .ok (.aload_n 0, 1) := by decide +kernel
theorem dX9_layFloor_68 : decode cX9_layFloor 68 = .ok (.iload 4, 2) := by decide +kernel
theorem dX9_layFloor_70 : decode cX9_layFloor 70 = .ok (.invokevirtual 355, 3) := by decide +kernel
theorem dX9_layFloor_73 : decode cX9_layFloor 73 = .ok (.ifCond .ne 6, 3) := by decide +kernel
theorem dX9_layFloor_76 : decode cX9_layFloor 76 = .ok (.goto 104, 3) := by decide +kernel
theorem dX9_layFloor_79 : decode cX9_layFloor 79 = .ok (.bipush 64, 2) := by decide +kernel
theorem dX9_layFloor_81 : decode cX9_layFloor 81 = .ok (.iload_n 1, 1) := by decide +kernel
theorem dX9_layFloor_82 : decode cX9_layFloor 82 = .ok (.imul, 1) := by decide +kernel
theorem dX9_layFloor_83 : decode cX9_layFloor 83 = .ok (.bipush 64, 2) := by decide +kernel
theorem dX9_layFloor_85 : decode cX9_layFloor 85 = .ok (.iadd, 1) := by decide +kernel
theorem dX9_layFloor_86 : decode cX9_layFloor 86 = .ok (.iload_n 2, 1) := by decide +kernel
theorem dX9_layFloor_87 : decode cX9_layFloor 87 = .ok (.iconst 1, 1) := by decide +kernel
theorem dX9_layFloor_88 : decode cX9_layFloor 88 = .ok (.iload 4, 2) := by decide +kernel
theorem dX9_layFloor_90 : decode cX9_layFloor 90 = .ok (.ishl, 1) := by decide +kernel
theorem dX9_layFloor_91 : decode cX9_layFloor 91 = .ok (.ior, 1) := by decide +kernel
theorem dX9_layFloor_92 : decode cX9_layFloor 92 = .ok (.iadd, 1) := by decide +kernel
theorem dX9_layFloor_93 : decode cX9_layFloor 93 = .ok (.istore 5, 2) := by decide +kernel
theorem dX9_layFloor_95 : decode cX9_layFloor 95 = .ok (.aload_n 0, 1) := by decide +kernel
theorem dX9_layFloor_96 : decode cX9_layFloor 96 = .ok (.getfield 136, 3) := by decide +kernel
theorem dX9_layFloor_99 : decode cX9_layFloor 99 = .ok (.iload 5, 2) := by decide +kernel
theorem dX9_layFloor_101 : decode cX9_layFloor 101 = .ok (.iaload, 1) := by decide +kernel
theorem dX9_layFloor_102 : decode cX9_layFloor 102 = .ok (.iconst 1, 1) := by decide +kernel
theorem dX9_layFloor_103 : decode cX9_layFloor 103 = .ok (.iadd, 1) := by decide +kernel
theorem dX9_layFloor_104 : decode cX9_layFloor 104 = .ok (.istore 6, 2) := by decide +kernel
theorem dX9_layFloor_106 : decode cX9_layFloor 106 = .ok (.aload_n 0, 1) := by decide +kernel
theorem dX9_layFloor_107 : decode cX9_layFloor 107 = .ok (.getfield 139, 3) := by decide +kernel
theorem dX9_layFloor_110 : decode cX9_layFloor 110 = .ok (.iload 5, 2) := by decide +kernel
theorem dX9_layFloor_112 : decode cX9_layFloor 112 = .ok (.iaload, 1) := by decide +kernel
theorem dX9_layFloor_113 : decode cX9_layFloor 113 = .ok (.aload_n 0, 1) := by decide +kernel
theorem dX9_layFloor_114 : decode cX9_layFloor 114 = .ok (.getfield 142, 3) := by decide +kernel
theorem dX9_layFloor_117 : decode cX9_layFloor 117 = .ok (.bipush 6, 2) := by decide +kernel
theorem dX9_layFloor_119 : decode cX9_layFloor 119 = .ok (.iload_n 1, 1) := by decide +kernel
theorem dX9_layFloor_120 : decode cX9_layFloor 120 = .ok (.imul, 1) := by decide +kernel
theorem dX9_layFloor_121 : decode cX9_layFloor 121 = .ok (.iload 4, 2) := by decide +kernel
theorem dX9_layFloor_123 : decode cX9_layFloor 123 = .ok (.iadd, 1) := by decide +kernel
theorem dX9_layFloor_124 : decode cX9_layFloor 124 = .ok (.iaload, 1) := by decide +kernel
theorem dX9_layFloor_125 : decode cX9_layFloor 125 = .ok (.iadd, 1) := by decide +kernel
theorem dX9_layFloor_126 : decode cX9_layFloor 126 = .ok (.istore 7, 2) := by decide +kernel
theorem dX9_layFloor_128 : decode cX9_layFloor 128 = .ok (.iload 6, 2) := by decide +kernel
theorem dX9_layFloor_130 : decode cX9_layFloor 130 = .ok (.aload_n 0, 1) := by decide +kernel
theorem dX9_layFloor_131 : decode cX9_layFloor 131 = .ok (.getfield 136, 3) := by decide +kernel
theorem dX9_layFloor_134 : decode cX9_layFloor 134 = .ok (.iload_n 3, 1) := by decide +kernel
theorem dX9_layFloor_135 : decode cX9_layFloor 135 = .ok (.iaload, 1) := by decide +kernel
theorem dX9_layFloor_136 : decode cX9_layFloor 136 = .ok (.if_icmp .lt 44, 3) := by decide +kernel
theorem dX9_layFloor_139 : decode cX9_layFloor 139 = .ok (.iload 6, 2) := by decide +kernel
theorem dX9_layFloor_141 : decode cX9_layFloor 141 = .ok (.aload_n 0, 1) := by decide +kernel
theorem dX9_layFloor_142 : decode cX9_layFloor 142 = .ok (.getfield 136, 3) := by decide +kernel
theorem dX9_layFloor_145 : decode cX9_layFloor 145 = .ok (.iload_n 3, 1) := by decide +kernel
theorem dX9_layFloor_146 : decode cX9_layFloor 146 = .ok (.iaload, 1) := by decide +kernel
theorem dX9_layFloor_147 : decode cX9_layFloor 147 = .ok (.if_icmp .ne 17, 3) := by decide +kernel
theorem dX9_layFloor_150 : decode cX9_layFloor 150 = .ok (.iload 7, 2) := by decide +kernel
theorem dX9_layFloor_152 : decode cX9_layFloor 152 = .ok (.aload_n 0, 1) := by decide +kernel
theorem dX9_layFloor_153 : decode cX9_layFloor 153 = .ok (.getfield 139, 3) := by decide +kernel
theorem dX9_layFloor_156 : decode cX9_layFloor 156 = .ok (.iload_n 3, 1) := by decide +kernel
theorem dX9_layFloor_157 : decode cX9_layFloor 157 = .ok (.iaload, 1) := by decide +kernel
theorem dX9_layFloor_158 : decode cX9_layFloor 158 = .ok (.if_icmp .lt 6, 3) := by decide +kernel
theorem dX9_layFloor_161 : decode cX9_layFloor 161 = .ok (.goto 19, 3) := by decide +kernel
theorem dX9_layFloor_164 : decode cX9_layFloor 164 = .ok (.aload_n 0, 1) := by decide +kernel
theorem dX9_layFloor_165 : decode cX9_layFloor 165 = .ok (.getfield 136, 3) := by decide +kernel
theorem dX9_layFloor_168 : decode cX9_layFloor 168 = .ok (.iload_n 3, 1) := by decide +kernel
theorem dX9_layFloor_169 : decode cX9_layFloor 169 = .ok (.iload 6, 2) := by decide +kernel
theorem dX9_layFloor_171 : decode cX9_layFloor 171 = .ok (.iastore, 1) := by decide +kernel
theorem dX9_layFloor_172 : decode cX9_layFloor 172 = .ok (.aload_n 0, 1) := by decide +kernel
theorem dX9_layFloor_173 : decode cX9_layFloor 173 = .ok (.getfield 139, 3) := by decide +kernel
theorem dX9_layFloor_176 : decode cX9_layFloor 176 = .ok (.iload_n 3, 1) := by decide +kernel
theorem dX9_layFloor_177 : decode cX9_layFloor 177 = .ok (.iload 7, 2) := by decide +kernel
theorem dX9_layFloor_179 : decode cX9_layFloor 179 = .ok (.iastore, 1) := by decide +kernel
theorem dX9_layFloor_180 : decode cX9_layFloor 180 = .ok (.iinc 4 1, 3) := by decide +kernel
theorem dX9_layFloor_183 : decode cX9_layFloor 183 = .ok (.goto (-143), 3) := by decide +kernel
theorem dX9_layFloor_186 : decode cX9_layFloor 186 = .ok (.return_, 1) := by decide +kernel
set_option maxRecDepth 20000 in
theorem ggX9_whoShared_X9_isOpen : GoodIn wsX9_whoShared wsX9_isOpen := goodIn_r _ [9, 10, 11, 12, 13, 8, 14, 15, 16, 17, 18, 1, 19, 26, 27, 28, 29, 30, 31, 32, 33, 34, 35, 36, 37, 38, 39, 40, 41, 42, 43, 44, 45, 46, 47, 48, 49, 50, 51, 52, 53, 54, 55, 56, 57, 58, 59, 60, 61, 62, 63, 64, 65, 66, 67, 68, 69, 70, 71, 72, 73, 74, 75, 76, 77, 78, 79, 80, 81, 82, 83, 84, 85, 86, 87, 88, 89, 90, 91, 92, 93, 94, 95, 96, 97, 98, 99, 100, 101, 102, 103, 104, 105, 106, 107, 108, 109, 110] (by decide +kernel) (by decide +kernel)
set_option maxRecDepth 20000 in
theorem gX9_whoShared_X9_isOpen : GoodIn wsX9_whoShared (wsV RX9 364 RX9 yX9_isOpen wsX9_isOpen) := goodIn_app (goodIn_of _ (by decide +kernel)) ggX9_whoShared_X9_isOpen
set_option maxRecDepth 20000 in
theorem ggX9_whoShared_X9_has : GoodIn wsX9_whoShared wsX9_has := goodIn_r _ [14] (by decide +kernel) (by decide +kernel)
set_option maxRecDepth 20000 in
theorem gX9_whoShared_X9_has : GoodIn wsX9_whoShared (wsV RX9 270 RX9 yX9_has wsX9_has) := goodIn_app (goodIn_of _ (by decide +kernel)) ggX9_whoShared_X9_has
set_option maxRecDepth 20000 in
theorem ggX9_whoShared_X9_isFree : GoodIn wsX9_whoShared wsX9_isFree := goodIn_r _ [23, 24, 19, 25, 11, 12, 13, 8, 14, 26, 27, 28, 29, 30, 31, 32, 33, 34, 35, 36, 37, 38, 39, 40, 41, 42, 43, 44, 45, 46, 47, 48, 49, 50, 51, 52, 53, 54, 55, 56, 57, 58, 59, 60, 61, 62, 63, 64, 65, 66, 67, 68, 69, 70, 71, 72, 73, 74, 75, 76, 77, 78, 79, 80, 81, 82, 83, 84, 85, 86, 87, 88, 89, 90, 91, 92, 93, 94, 95, 96, 97, 98, 99, 100, 101, 102, 103, 104, 105, 106, 107, 108, 109, 110] (by decide +kernel) (by decide +kernel)
set_option maxRecDepth 20000 in
theorem gX9_whoShared_X9_isFree : GoodIn wsX9_whoShared (wsV RX9 355 RX9 yX9_isFree wsX9_isFree) := goodIn_app (goodIn_of _ (by decide +kernel)) ggX9_whoShared_X9_isFree
theorem dX9_whoShared_0 : decode cX9_whoShared 0 = .ok (.bipush 64, 2) := by decide +kernel
theorem dX9_whoShared_2 : decode cX9_whoShared 2 = .ok (.iload_n 1, 1) := by decide +kernel
theorem dX9_whoShared_3 : decode cX9_whoShared 3 = .ok (.imul, 1) := by decide +kernel
theorem dX9_whoShared_4 : decode cX9_whoShared 4 = .ok (.iload_n 2, 1) := by decide +kernel
theorem dX9_whoShared_5 : decode cX9_whoShared 5 = .ok (.iadd, 1) := by decide +kernel
theorem dX9_whoShared_6 : decode cX9_whoShared 6 = .ok (.istore_n 3, 1) := by decide +kernel
theorem dX9_whoShared_7 : decode cX9_whoShared 7 = .ok (.iconst 0, 1) := by decide +kernel
theorem dX9_whoShared_8 : decode cX9_whoShared 8 = .ok (.istore 4, 2) := by decide +kernel
theorem dX9_whoShared_10 : decode cX9_whoShared 10 = .ok (.iload 4, 2) := by decide +kernel
theorem dX9_whoShared_12 : decode cX9_whoShared 12 = .ok (.aload_n 0, 1) := by decide +kernel
theorem dX9_whoShared_13 : decode cX9_whoShared 13 = .ok (.getfield 7, 3) := by decide +kernel
theorem dX9_whoShared_16 : decode cX9_whoShared 16 = .ok (.if_icmp .ge 105, 3) := by decide +kernel
theorem dX9_whoShared_19 : decode cX9_whoShared 19 = .ok (.aload_n 0, 1) := by decide +kernel
theorem dX9_whoShared_20 : decode cX9_whoShared 20 = .ok (.iload_n 1, 1) := by decide +kernel
theorem dX9_whoShared_21 : decode cX9_whoShared 21 = .ok (.invokevirtual 364, 3) := by decide +kernel
theorem dX9_whoShared_24 : decode cX9_whoShared 24 = .ok (.ifCond .eq 97, 3) := by decide +kernel
theorem dX9_whoShared_27 : decode cX9_whoShared 27 = .ok (.aload_n 0, 1) := by decide +kernel
theorem dX9_whoShared_28 : decode cX9_whoShared 28 = .ok (.iload_n 2, 1) := by decide +kernel
theorem dX9_whoShared_29 : decode cX9_whoShared 29 = .ok (.iload 4, 2) := by decide +kernel
theorem dX9_whoShared_31 : decode cX9_whoShared 31 = .ok (.invokevirtual 270, 3) := by decide +kernel
theorem dX9_whoShared_34 : decode cX9_whoShared 34 = .ok (.ifCond .ne 81, 3) := by decide +kernel
theorem dX9_whoShared_37 : decode cX9_whoShared 37 = .ok (.aload_n 0, 1) := by decide +kernel
theorem dX9_whoShared_38 : decode cX9_whoShared 38 = .ok (.iload 4, 2) := by decide +kernel
theorem dX9_whoShared_40 : decode cX9_whoShared 40 = .ok (.invokevirtual 355, 3) := by decide +kernel
theorem dX9_whoShared_43 : decode cX9_whoShared 43 = .ok (.ifCond .ne 6, 3) := by decide +kernel
theorem dX9_whoShared_46 : decode cX9_whoShared 46 = .ok (.goto 69, 3) := by decide +kernel
theorem dX9_whoShared_49 : decode cX9_whoShared 49 = .ok (.bipush 64, 2) := by decide +kernel
theorem dX9_whoShared_51 : decode cX9_whoShared 51 = .ok (.iload_n 1, 1) := by decide +kernel
theorem dX9_whoShared_52 : decode cX9_whoShared 52 = .ok (.imul, 1) := by decide +kernel
theorem dX9_whoShared_53 : decode cX9_whoShared 53 = .ok (.bipush 64, 2) := by decide +kernel
theorem dX9_whoShared_55 : decode cX9_whoShared 55 = .ok (.iadd, 1) := by decide +kernel
theorem dX9_whoShared_56 : decode cX9_whoShared 56 = .ok (.iload_n 2, 1) := by decide +kernel
theorem dX9_whoShared_57 : decode cX9_whoShared 57 = .ok (.iconst 1, 1) := by decide +kernel
theorem dX9_whoShared_58 : decode cX9_whoShared 58 = .ok (.iload 4, 2) := by decide +kernel
theorem dX9_whoShared_60 : decode cX9_whoShared 60 = .ok (.ishl, 1) := by decide +kernel
theorem dX9_whoShared_61 : decode cX9_whoShared 61 = .ok (.ior, 1) := by decide +kernel
theorem dX9_whoShared_62 : decode cX9_whoShared 62 = .ok (.iadd, 1) := by decide +kernel
theorem dX9_whoShared_63 : decode cX9_whoShared 63 = .ok (.istore 5, 2) := by decide +kernel
theorem dX9_whoShared_65 : decode cX9_whoShared 65 = .ok (.aload_n 0, 1) := by decide +kernel
theorem dX9_whoShared_66 : decode cX9_whoShared 66 = .ok (.getfield 136, 3) := by decide +kernel
theorem dX9_whoShared_69 : decode cX9_whoShared 69 = .ok (.iload 5, 2) := by decide +kernel
theorem dX9_whoShared_71 : decode cX9_whoShared 71 = .ok (.iaload, 1) := by decide +kernel
theorem dX9_whoShared_72 : decode cX9_whoShared 72 = .ok (.iconst 1, 1) := by decide +kernel
theorem dX9_whoShared_73 : decode cX9_whoShared 73 = .ok (.iadd, 1) := by decide +kernel
theorem dX9_whoShared_74 : decode cX9_whoShared 74 = .ok (.aload_n 0, 1) := by decide +kernel
theorem dX9_whoShared_75 : decode cX9_whoShared 75 = .ok (.getfield 136, 3) := by decide +kernel
theorem dX9_whoShared_78 : decode cX9_whoShared 78 = .ok (.iload_n 3, 1) := by decide +kernel
theorem dX9_whoShared_79 : decode cX9_whoShared 79 = .ok (.iaload, 1) := by decide +kernel
theorem dX9_whoShared_80 : decode cX9_whoShared 80 = .ok (.if_icmp .ne 35, 3) := by decide +kernel
theorem dX9_whoShared_83 : decode cX9_whoShared 83 = .ok (.aload_n 0, 1) := by decide +kernel
theorem dX9_whoShared_84 : decode cX9_whoShared 84 = .ok (.getfield 139, 3) := by decide +kernel
theorem dX9_whoShared_87 : decode cX9_whoShared 87 = .ok (.iload 5, 2) := by decide +kernel
theorem dX9_whoShared_89 : decode cX9_whoShared 89 = .ok (.iaload, 1) := by decide +kernel
theorem dX9_whoShared_90 : decode cX9_whoShared 90 = .ok (.aload_n 0, 1) := by decide +kernel
theorem dX9_whoShared_91 : decode cX9_whoShared 91 = .ok (.getfield 142, 3) := by decide +kernel
theorem dX9_whoShared_94 : decode cX9_whoShared 94 = .ok (.bipush 6, 2) := by decide +kernel
theorem dX9_whoShared_96 : decode cX9_whoShared 96 = .ok (.iload_n 1, 1) := by decide +kernel
theorem dX9_whoShared_97 : decode cX9_whoShared 97 = .ok (.imul, 1) := by decide +kernel
theorem dX9_whoShared_98 : decode cX9_whoShared 98 = .ok (.iload 4, 2) := by decide +kernel
theorem dX9_whoShared_100 : decode cX9_whoShared 100 = .ok (.iadd, 1) := by decide +kernel
theorem dX9_whoShared_101 : decode cX9_whoShared 101 = .ok (.iaload, 1) := by decide +kernel
theorem dX9_whoShared_102 : decode cX9_whoShared 102 = .ok (.iadd, 1) := by decide +kernel
theorem dX9_whoShared_103 : decode cX9_whoShared 103 = .ok (.aload_n 0, 1) := by decide +kernel
theorem dX9_whoShared_104 : decode cX9_whoShared 104 = .ok (.getfield 139, 3) := by decide +kernel
theorem dX9_whoShared_107 : decode cX9_whoShared 107 = .ok (.iload_n 3, 1) := by decide +kernel
theorem dX9_whoShared_108 : decode cX9_whoShared 108 = .ok (.iaload, 1) := by decide +kernel
theorem dX9_whoShared_109 : decode cX9_whoShared 109 = .ok (.if_icmp .ne 6, 3) := by decide +kernel
theorem dX9_whoShared_112 : decode cX9_whoShared 112 = .ok (.iload 4, 2) := by decide +kernel
theorem dX9_whoShared_114 : decode cX9_whoShared 114 = .ok (.ireturn, 1) := by decide +kernel
theorem dX9_whoShared_115 : decode cX9_whoShared 115 = .ok (.iinc 4 1, 3) := by decide +kernel
theorem dX9_whoShared_118 : decode cX9_whoShared 118 = .ok (.goto (-108), 3) := by decide +kernel
theorem dX9_whoShared_121 : decode cX9_whoShared 121 = .ok (.bipush (-5), 2) := by decide +kernel
theorem dX9_whoShared_123 : decode cX9_whoShared 123 = .ok (.ireturn, 1) := by decide +kernel
set_option maxRecDepth 20000 in
theorem ggX9_shared_X9_in : GoodIn wsX9_shared wsX9_in := goodIn_r _ [7] (by decide +kernel) (by decide +kernel)
set_option maxRecDepth 20000 in
theorem gX9_shared_X9_in : GoodIn wsX9_shared (wsV RX9 274 RX9 yX9_in wsX9_in) := goodIn_app (goodIn_of _ (by decide +kernel)) ggX9_shared_X9_in
set_option maxRecDepth 20000 in
theorem ggX9_shared_X9_layShared : GoodIn wsX9_shared wsX9_layShared := goodIn_r _ [11, 12, 13, 1, 2, 14, 15, 16, 6, 17, 18, 19, 20, 21, 22, 23, 24, 25, 26, 27, 28, 29, 30, 31, 32, 33, 34, 35, 36, 37, 38, 39, 40, 41, 42, 43, 44, 45, 46, 47, 48, 49, 50, 51, 52, 53, 54, 55, 56, 57, 58, 59, 60, 61, 62, 63, 64, 65, 66, 67, 68, 69, 70, 71, 72, 73, 74, 75, 76, 77, 78, 79, 84, 85, 86, 87, 88, 89, 90, 91, 92, 93, 94, 95, 96, 97, 98, 99, 100, 101, 102, 103, 104, 105, 106, 107, 108, 109, 110, 111, 112, 113, 114, 115, 116, 117, 118, 119, 120, 121, 122, 123, 124, 125, 126, 127, 128, 129, 130, 131, 132, 133, 134, 135, 136, 137, 138, 139, 140, 141, 142, 143, 144, 145, 146, 147, 148, 149, 150, 151, 152, 153, 154, 155, 156, 157, 158, 159, 160, 161, 162, 163, 164, 165, 166, 167, 168] (by decide +kernel) (by decide +kernel)
set_option maxRecDepth 20000 in
theorem gX9_shared_X9_layShared : GoodIn wsX9_shared (wsV RX9 426 RX9 yX9_layShared wsX9_layShared) := goodIn_app (goodIn_of _ (by decide +kernel)) ggX9_shared_X9_layShared
set_option maxRecDepth 20000 in
theorem ggX9_shared_X9_whoShared : GoodIn wsX9_shared wsX9_whoShared := goodIn_r _ [83, 12, 1, 2, 13, 60, 61, 62, 6, 63, 64, 65, 66, 67, 68, 69, 70, 71, 72, 73, 74, 75, 76, 77, 78, 79, 84, 85, 86, 87, 88, 89, 90, 91, 92, 93, 94, 95, 96, 97, 98, 99, 100, 101, 102, 103, 104, 105, 106, 107, 108, 109, 110, 111, 112, 113, 114, 115, 116, 117, 118, 119, 120, 121, 122, 123, 124, 125, 126, 127, 128, 129, 130, 131, 132, 133, 134, 135, 136, 137, 138, 139, 140, 141, 142, 143, 144, 145, 146, 147, 148, 149, 150, 151, 152, 153, 154, 155, 156, 157, 158, 159, 160, 161, 162, 163, 164, 165, 166, 167, 168] (by decide +kernel) (by decide +kernel)
set_option maxRecDepth 20000 in
theorem gX9_shared_X9_whoShared : GoodIn wsX9_shared (wsV RX9 429 RX9 yX9_whoShared wsX9_whoShared) := goodIn_app (goodIn_of _ (by decide +kernel)) ggX9_shared_X9_whoShared
theorem dX9_shared_0 : decode cX9_shared 0 = .ok (.aload_n 0, 1) := by decide +kernel
theorem dX9_shared_1 : decode cX9_shared 1 = .ok (.iload_n 1, 1) := by decide +kernel
theorem dX9_shared_2 : decode cX9_shared 2 = .ok (.iconst 0, 1) := by decide +kernel
theorem dX9_shared_3 : decode cX9_shared 3 = .ok (.iconst 1, 1) := by decide +kernel
theorem dX9_shared_4 : decode cX9_shared 4 = .ok (.invokevirtual 274, 3) := by decide +kernel
theorem dX9_shared_7 : decode cX9_shared 7 = .ok (.ifCond .ne 19, 3) := by decide +kernel
theorem dX9_shared_10 : decode cX9_shared 10 = .ok (.aload_n 0, 1) := by decide +kernel
theorem dX9_shared_11 : decode cX9_shared 11 = .ok (.iload_n 1, 1) := by decide +kernel
theorem dX9_shared_12 : decode cX9_shared 12 = .ok (.bipush 10, 2) := by decide +kernel
theorem dX9_shared_14 : decode cX9_shared 14 = .ok (.bipush 19, 2) := by decide +kernel
theorem dX9_shared_16 : decode cX9_shared 16 = .ok (.invokevirtual 274, 3) := by decide +kernel
theorem dX9_shared_19 : decode cX9_shared 19 = .ok (.ifCond .ne 7, 3) := by decide +kernel
theorem dX9_shared_22 : decode cX9_shared 22 = .ok (.sipush (-10001), 3) := by decide +kernel
theorem dX9_shared_25 : decode cX9_shared 25 = .ok (.ireturn, 1) := by decide +kernel
theorem dX9_shared_26 : decode cX9_shared 26 = .ok (.aload_n 0, 1) := by decide +kernel
theorem dX9_shared_27 : decode cX9_shared 27 = .ok (.invokevirtual 426, 3) := by decide +kernel
theorem dX9_shared_30 : decode cX9_shared 30 = .ok (.iload_n 1, 1) := by decide +kernel
theorem dX9_shared_31 : decode cX9_shared 31 = .ok (.iconst 2, 1) := by decide +kernel
theorem dX9_shared_32 : decode cX9_shared 32 = .ok (.if_icmp .ge 23, 3) := by decide +kernel
theorem dX9_shared_35 : decode cX9_shared 35 = .ok (.iload_n 1, 1) := by decide +kernel
theorem dX9_shared_36 : decode cX9_shared 36 = .ok (.ifCond .ne 12, 3) := by decide +kernel
theorem dX9_shared_39 : decode cX9_shared 39 = .ok (.aload_n 0, 1) := by decide +kernel
theorem dX9_shared_40 : decode cX9_shared 40 = .ok (.getfield 136, 3) := by decide +kernel
theorem dX9_shared_43 : decode cX9_shared 43 = .ok (.iconst 0, 1) := by decide +kernel
theorem dX9_shared_44 : decode cX9_shared 44 = .ok (.iaload, 1) := by decide +kernel
theorem dX9_shared_45 : decode cX9_shared 45 = .ok (.goto 9, 3) := by decide +kernel
theorem dX9_shared_48 : decode cX9_shared 48 = .ok (.aload_n 0, 1) := by decide +kernel
theorem dX9_shared_49 : decode cX9_shared 49 = .ok (.getfield 139, 3) := by decide +kernel
theorem dX9_shared_52 : decode cX9_shared 52 = .ok (.iconst 0, 1) := by decide +kernel
theorem dX9_shared_53 : decode cX9_shared 53 = .ok (.iaload, 1) := by decide +kernel
theorem dX9_shared_54 : decode cX9_shared 54 = .ok (.ireturn, 1) := by decide +kernel
theorem dX9_shared_55 : decode cX9_shared 55 = .ok (.iconst 0, 1) := by decide +kernel
theorem dX9_shared_56 : decode cX9_shared 56 = .ok (.istore_n 2, 1) := by decide +kernel
theorem dX9_shared_57 : decode cX9_shared 57 = .ok (.bipush (-5), 2) := by decide +kernel
theorem dX9_shared_59 : decode cX9_shared 59 = .ok (.istore_n 3, 1) := by decide +kernel
theorem dX9_shared_60 : decode cX9_shared 60 = .ok (.iconst 0, 1) := by decide +kernel
theorem dX9_shared_61 : decode cX9_shared 61 = .ok (.istore 4, 2) := by decide +kernel
theorem dX9_shared_63 : decode cX9_shared 63 = .ok (.iload 4, 2) := by decide +kernel
theorem dX9_shared_65 : decode cX9_shared 65 = .ok (.iload_n 1, 1) := by decide +kernel
theorem dX9_shared_66 : decode cX9_shared 66 = .ok (.bipush 10, 2) := by decide +kernel
theorem dX9_shared_68 : decode cX9_shared 68 = .ok (.isub, 1) := by decide +kernel
theorem dX9_shared_69 : decode cX9_shared 69 = .ok (.if_icmp .gt 31, 3) := by decide +kernel
theorem dX9_shared_72 : decode cX9_shared 72 = .ok (.aload_n 0, 1) := by decide +kernel
theorem dX9_shared_73 : decode cX9_shared 73 = .ok (.iload 4, 2) := by decide +kernel
theorem dX9_shared_75 : decode cX9_shared 75 = .ok (.iload_n 2, 1) := by decide +kernel
theorem dX9_shared_76 : decode cX9_shared 76 = .ok (.invokevirtual 429, 3) := by decide +kernel
theorem dX9_shared_79 : decode cX9_shared 79 = .ok (.istore_n 3, 1) := by decide +kernel
theorem dX9_shared_80 : decode cX9_shared 80 = .ok (.iload_n 2, 1) := by decide +kernel
theorem dX9_shared_81 : decode cX9_shared 81 = .ok (.iload_n 3, 1) := by decide +kernel
theorem dX9_shared_82 : decode cX9_shared 82 = .ok (.ifCond .lt 9, 3) := by decide +kernel
theorem dX9_shared_85 : decode cX9_shared 85 = .ok (.iconst 1, 1) := by decide +kernel
theorem dX9_shared_86 : decode cX9_shared 86 = .ok (.iload_n 3, 1) := by decide +kernel
theorem dX9_shared_87 : decode cX9_shared 87 = .ok (.ishl, 1) := by decide +kernel
theorem dX9_shared_88 : decode cX9_shared 88 = .ok (.goto 4, 3) := by decide +kernel
theorem dX9_shared_91 : decode cX9_shared 91 = .ok (.iconst 0, 1) := by decide +kernel
theorem dX9_shared_92 : decode cX9_shared 92 = .ok (.ior, 1) := by decide +kernel
theorem dX9_shared_93 : decode cX9_shared 93 = .ok (.istore_n 2, 1) := by decide +kernel
theorem dX9_shared_94 : decode cX9_shared 94 = .ok (.iinc 4 1, 3) := by decide +kernel
theorem dX9_shared_97 : decode cX9_shared 97 = .ok (.goto (-34), 3) := by decide +kernel
theorem dX9_shared_100 : decode cX9_shared 100 = .ok (.iload_n 3, 1) := by decide +kernel
theorem dX9_shared_101 : decode cX9_shared 101 = .ok (.ireturn, 1) := by decide +kernel
set_option maxRecDepth 20000 in
theorem ggX9_see_X9_isMaster : GoodIn wsX9_see wsX9_isMaster := goodIn_r _ [9, 10, 11, 12, 13, 8, 14, 19, 20, 21, 22, 23, 24, 25, 26, 27, 28, 29, 30, 31, 32, 33, 34, 35, 36, 37, 38, 39, 40, 41, 42, 43, 44, 45, 46, 47, 48, 49, 50, 51, 52, 53, 54, 55, 56, 57, 58, 59, 60, 61, 62, 63, 64, 65, 66, 67, 68, 69, 70, 71, 72, 73, 74, 75, 76, 77, 78, 79, 80, 81, 82, 83, 84, 85, 86, 87, 88, 89, 90, 91, 92, 93, 94, 95, 96, 97, 98, 99, 100, 101, 102, 103] (by decide +kernel) (by decide +kernel)
set_option maxRecDepth 20000 in
theorem gX9_see_X9_isMaster : GoodIn wsX9_see (wsV RX9 282 RX9 yX9_isMaster wsX9_isMaster) := goodIn_app (goodIn_of _ (by decide +kernel)) ggX9_see_X9_isMaster
set_option maxRecDepth 20000 in
theorem ggX9_see_X9_isFloor : GoodIn wsX9_see wsX9_isFloor := goodIn_r _ [18, 11, 12, 13, 8, 14] (by decide +kernel) (by decide +kernel)
set_option maxRecDepth 20000 in
theorem gX9_see_X9_isFloor : GoodIn wsX9_see (wsV RX9 278 RX9 yX9_isFloor wsX9_isFloor) := goodIn_app (goodIn_of _ (by decide +kernel)) ggX9_see_X9_isFloor
set_option maxRecDepth 20000 in
theorem ggX9_see_X9_in : GoodIn wsX9_see wsX9_in := goodIn_r _ [14] (by decide +kernel) (by decide +kernel)
set_option maxRecDepth 20000 in
theorem gX9_see_X9_in : GoodIn wsX9_see (wsV RX9 274 RX9 yX9_in wsX9_in) := goodIn_app (goodIn_of _ (by decide +kernel)) ggX9_see_X9_in
theorem dX9_see_0 : decode cX9_see 0 = .ok (.iload_n 1, 1) := by decide +kernel
theorem dX9_see_1 : decode cX9_see 1 = .ok (.iconst (-1), 1) := by decide +kernel
theorem dX9_see_2 : decode cX9_see 2 = .ok (.if_icmp .ne 10, 3) := by decide +kernel
theorem dX9_see_5 : decode cX9_see 5 = .ok (.aload_n 0, 1) := by decide +kernel
theorem dX9_see_6 : decode cX9_see 6 = .ok (.iconst 0, 1) := by decide +kernel
theorem dX9_see_7 : decode cX9_see 7 = .ok (.putfield 145, 3) := by decide +kernel
theorem dX9_see_10 : decode cX9_see 10 = .ok (.iconst 0, 1) := by decide +kernel
theorem dX9_see_11 : decode cX9_see 11 = .ok (.ireturn, 1) := by decide +kernel
theorem dX9_see_12 : decode cX9_see 12 = .ok (.aload_n 0, 1) := by decide +kernel
theorem dX9_see_13 : decode cX9_see 13 = .ok (.iload_n 1, 1) := by decide +kernel
theorem dX9_see_14 : decode cX9_see 14 = .ok (.invokevirtual 282, 3) := by decide +kernel
theorem dX9_see_17 : decode cX9_see 17 = .ok (.ifCond .eq 11, 3) := by decide +kernel
theorem dX9_see_20 : decode cX9_see 20 = .ok (.aload_n 0, 1) := by decide +kernel
theorem dX9_see_21 : decode cX9_see 21 = .ok (.iload_n 3, 1) := by decide +kernel
theorem dX9_see_22 : decode cX9_see 22 = .ok (.invokevirtual 278, 3) := by decide +kernel
theorem dX9_see_25 : decode cX9_see 25 = .ok (.ifCond .ne 5, 3) := by decide +kernel
theorem dX9_see_28 : decode cX9_see 28 = .ok (.iconst (-1), 1) := by decide +kernel
theorem dX9_see_29 : decode cX9_see 29 = .ok (.ireturn, 1) := by decide +kernel
theorem dX9_see_30 : decode cX9_see 30 = .ok (.aload_n 0, 1) := by decide +kernel
theorem dX9_see_31 : decode cX9_see 31 = .ok (.iload_n 2, 1) := by decide +kernel
theorem dX9_see_32 : decode cX9_see 32 = .ok (.iconst 0, 1) := by decide +kernel
theorem dX9_see_33 : decode cX9_see 33 = .ok (.bipush 20, 2) := by decide +kernel
theorem dX9_see_35 : decode cX9_see 35 = .ok (.invokevirtual 274, 3) := by decide +kernel
theorem dX9_see_38 : decode cX9_see 38 = .ok (.ifCond .ne 6, 3) := by decide +kernel
theorem dX9_see_41 : decode cX9_see 41 = .ok (.bipush (-2), 2) := by decide +kernel
theorem dX9_see_43 : decode cX9_see 43 = .ok (.ireturn, 1) := by decide +kernel
theorem dX9_see_44 : decode cX9_see 44 = .ok (.aload_n 0, 1) := by decide +kernel
theorem dX9_see_45 : decode cX9_see 45 = .ok (.getfield 145, 3) := by decide +kernel
theorem dX9_see_48 : decode cX9_see 48 = .ok (.iconst 5, 1) := by decide +kernel
theorem dX9_see_49 : decode cX9_see 49 = .ok (.if_icmp .ne 6, 3) := by decide +kernel
theorem dX9_see_52 : decode cX9_see 52 = .ok (.bipush (-4), 2) := by decide +kernel
theorem dX9_see_54 : decode cX9_see 54 = .ok (.ireturn, 1) := by decide +kernel
theorem dX9_see_55 : decode cX9_see 55 = .ok (.aload_n 0, 1) := by decide +kernel
theorem dX9_see_56 : decode cX9_see 56 = .ok (.getfield 148, 3) := by decide +kernel
theorem dX9_see_59 : decode cX9_see 59 = .ok (.aload_n 0, 1) := by decide +kernel
theorem dX9_see_60 : decode cX9_see 60 = .ok (.getfield 145, 3) := by decide +kernel
theorem dX9_see_63 : decode cX9_see 63 = .ok (.iload_n 1, 1) := by decide +kernel
theorem dX9_see_64 : decode cX9_see 64 = .ok (.iastore, 1) := by decide +kernel
theorem dX9_see_65 : decode cX9_see 65 = .ok (.aload_n 0, 1) := by decide +kernel
theorem dX9_see_66 : decode cX9_see 66 = .ok (.getfield 151, 3) := by decide +kernel
theorem dX9_see_69 : decode cX9_see 69 = .ok (.aload_n 0, 1) := by decide +kernel
theorem dX9_see_70 : decode cX9_see 70 = .ok (.getfield 145, 3) := by decide +kernel
theorem dX9_see_73 : decode cX9_see 73 = .ok (.iload_n 2, 1) := by decide +kernel
theorem dX9_see_74 : decode cX9_see 74 = .ok (.iastore, 1) := by decide +kernel
theorem dX9_see_75 : decode cX9_see 75 = .ok (.aload_n 0, 1) := by decide +kernel
theorem dX9_see_76 : decode cX9_see 76 = .ok (.getfield 154, 3) := by decide +kernel
theorem dX9_see_79 : decode cX9_see 79 = .ok (.aload_n 0, 1) := by decide +kernel
theorem dX9_see_80 : decode cX9_see 80 = .ok (.getfield 145, 3) := by decide +kernel
theorem dX9_see_83 : decode cX9_see 83 = .ok (.iload_n 3, 1) := by decide +kernel
theorem dX9_see_84 : decode cX9_see 84 = .ok (.iastore, 1) := by decide +kernel
theorem dX9_see_85 : decode cX9_see 85 = .ok (.aload_n 0, 1) := by decide +kernel
theorem dX9_see_86 : decode cX9_see 86 = .ok (.dup, 1) := by decide +kernel
theorem dX9_see_87 : decode cX9_see 87 = .ok (.getfield 145, 3) := by decide +kernel
theorem dX9_see_90 : decode cX9_see 90 = .ok (.iconst 1, 1) := by decide +kernel
theorem dX9_see_91 : decode cX9_see 91 = .ok (.iadd, 1) := by decide +kernel
theorem dX9_see_92 : decode cX9_see 92 = .ok (.putfield 145, 3) := by decide +kernel
theorem dX9_see_95 : decode cX9_see 95 = .ok (.aload_n 0, 1) := by decide +kernel
theorem dX9_see_96 : decode cX9_see 96 = .ok (.getfield 145, 3) := by decide +kernel
theorem dX9_see_99 : decode cX9_see 99 = .ok (.ireturn, 1) := by decide +kernel
set_option maxRecDepth 20000 in
theorem ggX9_isSeen_X9_save : GoodIn wsX9_isSeen wsX9_save := goodIn_r _ [10, 11, 12, 13, 14, 15, 16, 17, 18, 19, 20, 21, 22, 3, 23, 24, 25, 26, 27, 28, 122, 123, 124, 125, 126, 127, 128, 129, 130, 131, 132, 133, 134, 135, 136, 137, 138, 139, 140, 141, 142, 143, 144, 145, 146, 147, 148, 149, 150, 151, 152, 153, 154, 155, 156, 157, 158, 159, 160, 161, 162, 163, 164, 165, 166, 167, 168, 169, 170, 171, 172, 173, 174, 175, 176, 177, 178, 179, 180, 181, 182, 183, 184, 185, 186, 187, 188, 189, 190, 191, 192, 193, 194, 195, 196, 197, 198, 199, 200, 201, 202, 203, 204, 205, 206] (by decide +kernel) (by decide +kernel)
set_option maxRecDepth 20000 in
theorem gX9_isSeen_X9_save : GoodIn wsX9_isSeen (wsV RX9 395 RX9 yX9_save wsX9_save) := goodIn_app (goodIn_of _ (by decide +kernel)) ggX9_isSeen_X9_save
set_option maxRecDepth 20000 in
theorem ggX9_isSeen_X9_goMinutes : GoodIn wsX9_isSeen wsX9_goMinutes := goodIn_r _ [32, 33, 34, 35, 9, 36, 37, 14, 24, 26, 18, 16, 13, 20, 38, 39, 40, 41, 42, 43, 44, 45, 46, 47, 48, 49, 50, 51, 52, 53, 54, 55, 56, 57, 58, 59, 60, 61, 62, 63, 64, 65, 3, 66, 67, 28, 68, 69, 70, 71, 72, 73, 74, 75, 76, 77, 78, 79, 80, 81, 82, 83, 84, 85, 86, 87, 88, 89, 90, 91, 92, 93, 94, 95, 96, 97, 98, 99, 100, 101, 102, 103, 104, 12, 105, 106, 107, 108, 109, 110, 111, 112, 113, 114, 115, 116, 122, 123, 124, 125, 126, 127, 128, 129, 130, 131, 132, 133, 134, 135, 136, 137, 138, 139, 140, 141, 142, 143, 144, 145, 146, 147, 148, 149, 150, 151, 152, 153, 154, 155, 156, 157, 158, 159, 160, 161, 162, 163, 164, 165, 166, 167, 168, 169, 170, 171, 172, 173, 174, 175, 176, 177, 178, 179, 180, 181, 182, 183, 184, 185, 186, 187, 188, 189, 190, 191, 192, 193, 194, 195, 196, 197, 198, 199, 200, 201, 202, 203, 204, 205, 206] (by decide +kernel) (by decide +kernel)
set_option maxRecDepth 20000 in
theorem gX9_isSeen_X9_goMinutes : GoodIn wsX9_isSeen (wsV RX9 391 RX9 yX9_goMinutes wsX9_goMinutes) := goodIn_app (goodIn_of _ (by decide +kernel)) ggX9_isSeen_X9_goMinutes
set_option maxRecDepth 20000 in
theorem ggX9_isSeen_X9_putBack : GoodIn wsX9_isSeen wsX9_putBack := goodIn_r _ [120, 12, 121, 13, 15, 14, 17, 16, 19, 18, 21, 20, 3, 22, 24, 23, 26, 25, 28, 27, 122, 123, 124, 125, 126, 127, 128, 129, 130, 131, 132, 133, 134, 135, 136, 137, 138, 139, 140, 141, 142, 143, 144, 145, 146, 147, 148, 149, 150, 151, 152, 153, 154, 155, 156, 157, 158, 159, 160, 161, 162, 163, 164, 165, 166, 167, 168, 169, 170, 171, 172, 173, 174, 175, 176, 177, 178, 179, 180, 181, 182, 183, 184, 185, 186, 187, 188, 189, 190, 191, 192, 193, 194, 195, 196, 197, 198, 199, 200, 201, 202, 203, 204, 205, 206] (by decide +kernel) (by decide +kernel)
set_option maxRecDepth 20000 in
theorem gX9_isSeen_X9_putBack : GoodIn wsX9_isSeen (wsV RX9 398 RX9 yX9_putBack wsX9_putBack) := goodIn_app (goodIn_of _ (by decide +kernel)) ggX9_isSeen_X9_putBack
theorem dX9_isSeen_0 : decode cX9_isSeen 0 = .ok (.iconst 1, 1) := by decide +kernel
theorem dX9_isSeen_1 : decode cX9_isSeen 1 = .ok (.istore_n 1, 1) := by decide +kernel
theorem dX9_isSeen_2 : decode cX9_isSeen 2 = .ok (.iconst 0, 1) := by decide +kernel
theorem dX9_isSeen_3 : decode cX9_isSeen 3 = .ok (.istore_n 2, 1) := by decide +kernel
theorem dX9_isSeen_4 : decode cX9_isSeen 4 = .ok (.iload_n 2, 1) := by decide +kernel
theorem dX9_isSeen_5 : decode cX9_isSeen 5 = .ok (.aload_n 0, 1) := by decide +kernel
theorem dX9_isSeen_6 : decode cX9_isSeen 6 = .ok (.getfield 145, 3) := by decide +kernel
theorem dX9_isSeen_9 : decode cX9_isSeen 9 = .ok (.if_icmp .ge 57, 3) := by decide +kernel
theorem dX9_isSeen_12 : decode cX9_isSeen 12 = .ok (.iload_n 1, 1) := by decide +kernel
theorem dX9_isSeen_13 : decode cX9_isSeen 13 = .ok (.ifCond .eq 53, 3) := by decide +kernel
theorem dX9_isSeen_16 : decode cX9_isSeen 16 = .ok (.aload_n 0, 1) := by decide +kernel
theorem dX9_isSeen_17 : decode cX9_isSeen 17 = .ok (.invokevirtual 395, 3) := by decide +kernel
theorem dX9_isSeen_20 : decode cX9_isSeen 20 = .ok (.aload_n 0, 1) := by decide +kernel
theorem dX9_isSeen_21 : decode cX9_isSeen 21 = .ok (.aload_n 0, 1) := by decide +kernel
theorem dX9_isSeen_22 : decode cX9_isSeen 22 = .ok (.getfield 151, 3) := by decide +kernel
theorem dX9_isSeen_25 : decode cX9_isSeen 25 = .ok (.iload_n 2, 1) := by decide +kernel
theorem dX9_isSeen_26 : decode cX9_isSeen 26 = .ok (.iaload, 1) := by decide +kernel
theorem dX9_isSeen_27 : decode cX9_isSeen 27 = .ok (.invokevirtual 391, 3) := by decide +kernel
theorem dX9_isSeen_30 : decode cX9_isSeen 30 = .ok (.aload_n 0, 1) := by decide +kernel
theorem dX9_isSeen_31 : decode cX9_isSeen 31 = .ok (.getfield 32, 3) := by decide +kernel
theorem dX9_isSeen_34 : decode cX9_isSeen 34 = .ok (.aload_n 0, 1) := by decide +kernel
theorem dX9_isSeen_35 : decode cX9_isSeen 35 = .ok (.getfield 148, 3) := by decide +kernel
theorem dX9_isSeen_38 : decode cX9_isSeen 38 = .ok (.iload_n 2, 1) := by decide +kernel
theorem dX9_isSeen_39 : decode cX9_isSeen 39 = .ok (.iaload, 1) := by decide +kernel
theorem dX9_isSeen_40 : decode cX9_isSeen 40 = .ok (.iaload, 1) := by decide +kernel
theorem dX9_isSeen_41 : decode cX9_isSeen 41 = .ok (.aload_n 0, 1) := by decide +kernel
theorem dX9_isSeen_42 : decode cX9_isSeen 42 = .ok (.getfield 154, 3) := by decide +kernel
theorem dX9_isSeen_45 : decode cX9_isSeen 45 = .ok (.iload_n 2, 1) := by decide +kernel
theorem dX9_isSeen_46 : decode cX9_isSeen 46 = .ok (.iaload, 1) := by decide +kernel
theorem dX9_isSeen_47 : decode cX9_isSeen 47 = .ok (.if_icmp .ne 7, 3) := by decide +kernel
theorem dX9_isSeen_50 : decode cX9_isSeen 50 = .ok (.iconst 1, 1) := by decide +kernel
theorem dX9_isSeen_51 : decode cX9_isSeen 51 = .ok (.goto 4, 3) := by decide +kernel
theorem dX9_isSeen_54 : decode cX9_isSeen 54 = .ok (.iconst 0, 1) := by decide +kernel
theorem dX9_isSeen_55 : decode cX9_isSeen 55 = .ok (.istore_n 1, 1) := by decide +kernel
theorem dX9_isSeen_56 : decode cX9_isSeen 56 = .ok (.aload_n 0, 1) := by decide +kernel
theorem dX9_isSeen_57 : decode cX9_isSeen 57 = .ok (.invokevirtual 398, 3) := by decide +kernel
theorem dX9_isSeen_60 : decode cX9_isSeen 60 = .ok (.iinc 2 1, 3) := by decide +kernel
theorem dX9_isSeen_63 : decode cX9_isSeen 63 = .ok (.goto (-59), 3) := by decide +kernel
theorem dX9_isSeen_66 : decode cX9_isSeen 66 = .ok (.iload_n 1, 1) := by decide +kernel
theorem dX9_isSeen_67 : decode cX9_isSeen 67 = .ok (.ireturn, 1) := by decide +kernel
set_option maxRecDepth 20000 in
theorem ggX9_from_X9_isMaster : GoodIn wsX9_from wsX9_isMaster := goodIn_r _ [6, 7, 8, 9, 10, 5, 11, 134, 135, 136, 137, 138, 139, 140, 141, 142, 143, 144, 145, 146, 147, 148, 149, 150, 151, 152, 153, 154, 155, 156, 157, 158, 159, 160, 161, 162, 163, 164, 165, 166, 167, 168, 169, 170, 171, 172, 173, 174, 175, 176, 177, 178, 179, 180, 181, 182, 183, 184, 185, 186, 187, 188, 189, 190, 191, 192, 193, 194, 195, 196, 197, 198, 199, 200, 201, 202, 203, 204, 205, 206, 207, 208, 209, 210, 211, 212, 213, 214, 215, 216, 217, 218] (by decide +kernel) (by decide +kernel)
set_option maxRecDepth 20000 in
theorem gX9_from_X9_isMaster : GoodIn wsX9_from (wsV RX9 282 RX9 yX9_isMaster wsX9_isMaster) := goodIn_app (goodIn_of _ (by decide +kernel)) ggX9_from_X9_isMaster
set_option maxRecDepth 20000 in
theorem ggX9_from_X9_isSeen : GoodIn wsX9_from wsX9_isSeen := goodIn_r _ [15, 16, 17, 1, 18, 19, 20, 21, 22, 5, 23, 24, 25, 26, 27, 28, 29, 30, 31, 32, 33, 34, 35, 36, 37, 38, 39, 40, 41, 42, 43, 44, 45, 46, 47, 48, 49, 7, 50, 51, 52, 53, 54, 55, 56, 57, 58, 59, 60, 61, 62, 63, 64, 65, 66, 67, 68, 69, 70, 71, 72, 73, 74, 75, 76, 77, 78, 79, 80, 81, 82, 83, 84, 85, 86, 87, 88, 89, 90, 91, 92, 93, 94, 95, 96, 97, 98, 99, 100, 101, 102, 103, 104, 105, 106, 107, 108, 109, 110, 111, 112, 113, 114, 115, 116, 117, 118, 119, 120, 121, 122, 123, 124, 125, 126, 127, 128, 129, 130, 131, 132, 133, 134, 135, 136, 137, 138, 139, 140, 141, 142, 143, 144, 145, 146, 147, 148, 149, 150, 151, 152, 153, 154, 155, 156, 157, 158, 159, 160, 161, 162, 163, 164, 165, 166, 167, 168, 169, 170, 171, 172, 173, 174, 175, 176, 177, 178, 179, 180, 181, 182, 183, 184, 185, 186, 187, 188, 189, 190, 191, 192, 193, 194, 195, 196, 197, 198, 199, 200, 201, 202, 203, 204, 205, 206, 207, 208, 209, 210, 211, 212, 213, 214, 215, 216, 217, 218] (by decide +kernel) (by decide +kernel)
set_option maxRecDepth 20000 in
theorem gX9_from_X9_isSeen : GoodIn wsX9_from (wsV RX9 432 RX9 yX9_isSeen wsX9_isSeen) := goodIn_app (goodIn_of _ (by decide +kernel)) ggX9_from_X9_isSeen
theorem dX9_from_0 : decode cX9_from 0 = .ok (.aload_n 0, 1) := by decide +kernel
theorem dX9_from_1 : decode cX9_from 1 = .ok (.iload_n 1, 1) := by decide +kernel
theorem dX9_from_2 : decode cX9_from 2 = .ok (.invokevirtual 282, 3) := by decide +kernel
theorem dX9_from_5 : decode cX9_from 5 = .ok (.ifCond .ne 5, 3) := by decide +kernel
theorem dX9_from_8 : decode cX9_from 8 = .ok (.iconst (-1), 1) := by decide +kernel
theorem dX9_from_9 : decode cX9_from 9 = .ok (.ireturn, 1) := by decide +kernel
theorem dX9_from_10 : decode cX9_from 10 = .ok (.aload_n 0, 1) := by decide +kernel
theorem dX9_from_11 : decode cX9_from 11 = .ok (.getfield 32, 3) := by decide +kernel
theorem dX9_from_14 : decode cX9_from 14 = .ok (.iload_n 1, 1) := by decide +kernel
theorem dX9_from_15 : decode cX9_from 15 = .ok (.iaload, 1) := by decide +kernel
theorem dX9_from_16 : decode cX9_from 16 = .ok (.istore_n 2, 1) := by decide +kernel
theorem dX9_from_17 : decode cX9_from 17 = .ok (.iconst 0, 1) := by decide +kernel
theorem dX9_from_18 : decode cX9_from 18 = .ok (.istore_n 3, 1) := by decide +kernel
theorem dX9_from_19 : decode cX9_from 19 = .ok (.iconst 0, 1) := by decide +kernel
theorem dX9_from_20 : decode cX9_from 20 = .ok (.istore 4, 2) := by decide +kernel
theorem dX9_from_22 : decode cX9_from 22 = .ok (.iload 4, 2) := by decide +kernel
theorem dX9_from_24 : decode cX9_from 24 = .ok (.bipush 10, 2) := by decide +kernel
theorem dX9_from_26 : decode cX9_from 26 = .ok (.if_icmp .ge 35, 3) := by decide +kernel
theorem dX9_from_29 : decode cX9_from 29 = .ok (.aload_n 0, 1) := by decide +kernel
theorem dX9_from_30 : decode cX9_from 30 = .ok (.getfield 32, 3) := by decide +kernel
theorem dX9_from_33 : decode cX9_from 33 = .ok (.iload_n 1, 1) := by decide +kernel
theorem dX9_from_34 : decode cX9_from 34 = .ok (.iload 4, 2) := by decide +kernel
theorem dX9_from_36 : decode cX9_from 36 = .ok (.iastore, 1) := by decide +kernel
theorem dX9_from_37 : decode cX9_from 37 = .ok (.iload_n 3, 1) := by decide +kernel
theorem dX9_from_38 : decode cX9_from 38 = .ok (.aload_n 0, 1) := by decide +kernel
theorem dX9_from_39 : decode cX9_from 39 = .ok (.invokevirtual 432, 3) := by decide +kernel
theorem dX9_from_42 : decode cX9_from 42 = .ok (.ifCond .eq 10, 3) := by decide +kernel
theorem dX9_from_45 : decode cX9_from 45 = .ok (.iconst 1, 1) := by decide +kernel
theorem dX9_from_46 : decode cX9_from 46 = .ok (.iload 4, 2) := by decide +kernel
theorem dX9_from_48 : decode cX9_from 48 = .ok (.ishl, 1) := by decide +kernel
theorem dX9_from_49 : decode cX9_from 49 = .ok (.goto 4, 3) := by decide +kernel
theorem dX9_from_52 : decode cX9_from 52 = .ok (.iconst 0, 1) := by decide +kernel
theorem dX9_from_53 : decode cX9_from 53 = .ok (.ior, 1) := by decide +kernel
theorem dX9_from_54 : decode cX9_from 54 = .ok (.istore_n 3, 1) := by decide +kernel
theorem dX9_from_55 : decode cX9_from 55 = .ok (.iinc 4 1, 3) := by decide +kernel
theorem dX9_from_58 : decode cX9_from 58 = .ok (.goto (-36), 3) := by decide +kernel
theorem dX9_from_61 : decode cX9_from 61 = .ok (.aload_n 0, 1) := by decide +kernel
theorem dX9_from_62 : decode cX9_from 62 = .ok (.getfield 32, 3) := by decide +kernel
theorem dX9_from_65 : decode cX9_from 65 = .ok (.iload_n 1, 1) := by decide +kernel
theorem dX9_from_66 : decode cX9_from 66 = .ok (.iload_n 2, 1) := by decide +kernel
theorem dX9_from_67 : decode cX9_from 67 = .ok (.iastore, 1) := by decide +kernel
theorem dX9_from_68 : decode cX9_from 68 = .ok (.iload_n 3, 1) := by decide +kernel
theorem dX9_from_69 : decode cX9_from 69 = .ok (.ireturn, 1) := by decide +kernel
set_option maxRecDepth 20000 in
theorem ggX9_can_X9_isMaster : GoodIn wsX9_can wsX9_isMaster := goodIn_r _ [6, 7, 8, 9, 10, 5, 11, 134, 135, 136, 137, 138, 139, 140, 141, 142, 143, 144, 145, 146, 147, 148, 149, 150, 151, 152, 153, 154, 155, 156, 157, 158, 159, 160, 161, 162, 163, 164, 165, 166, 167, 168, 169, 170, 171, 172, 173, 174, 175, 176, 177, 178, 179, 180, 181, 182, 183, 184, 185, 186, 187, 188, 189, 190, 191, 192, 193, 194, 195, 196, 197, 198, 199, 200, 201, 202, 203, 204, 205, 206, 207, 208, 209, 210, 211, 212, 213, 214, 215, 216, 217, 218] (by decide +kernel) (by decide +kernel)
set_option maxRecDepth 20000 in
theorem gX9_can_X9_isMaster : GoodIn wsX9_can (wsV RX9 282 RX9 yX9_isMaster wsX9_isMaster) := goodIn_app (goodIn_of _ (by decide +kernel)) ggX9_can_X9_isMaster
set_option maxRecDepth 20000 in
theorem ggX9_can_X9_in : GoodIn wsX9_can wsX9_in := goodIn_r _ [11] (by decide +kernel) (by decide +kernel)
set_option maxRecDepth 20000 in
theorem gX9_can_X9_in : GoodIn wsX9_can (wsV RX9 274 RX9 yX9_in wsX9_in) := goodIn_app (goodIn_of _ (by decide +kernel)) ggX9_can_X9_in
set_option maxRecDepth 20000 in
theorem ggX9_can_X9_isSeen : GoodIn wsX9_can wsX9_isSeen := goodIn_r _ [15, 16, 17, 18, 19, 20, 21, 22, 23, 5, 24, 25, 26, 27, 28, 29, 30, 31, 32, 33, 34, 35, 36, 37, 38, 39, 40, 41, 42, 43, 44, 45, 46, 47, 48, 49, 50, 7, 51, 52, 53, 54, 55, 56, 57, 58, 59, 60, 61, 62, 63, 64, 65, 66, 67, 68, 69, 70, 71, 72, 73, 74, 75, 76, 77, 78, 1, 79, 80, 81, 82, 83, 84, 85, 86, 87, 88, 89, 90, 91, 92, 93, 94, 95, 96, 97, 98, 99, 100, 101, 102, 103, 104, 105, 106, 107, 108, 109, 110, 111, 112, 113, 114, 115, 116, 117, 118, 119, 120, 121, 122, 123, 124, 125, 126, 127, 128, 129, 130, 131, 132, 133, 134, 135, 136, 137, 138, 139, 140, 141, 142, 143, 144, 145, 146, 147, 148, 149, 150, 151, 152, 153, 154, 155, 156, 157, 158, 159, 160, 161, 162, 163, 164, 165, 166, 167, 168, 169, 170, 171, 172, 173, 174, 175, 176, 177, 178, 179, 180, 181, 182, 183, 184, 185, 186, 187, 188, 189, 190, 191, 192, 193, 194, 195, 196, 197, 198, 199, 200, 201, 202, 203, 204, 205, 206, 207, 208, 209, 210, 211, 212, 213, 214, 215, 216, 217, 218] (by decide +kernel) (by decide +kernel)
set_option maxRecDepth 20000 in
theorem gX9_can_X9_isSeen : GoodIn wsX9_can (wsV RX9 432 RX9 yX9_isSeen wsX9_isSeen) := goodIn_app (goodIn_of _ (by decide +kernel)) ggX9_can_X9_isSeen
theorem dX9_can_0 : decode cX9_can 0 = .ok (.aload_n 0, 1) := by decide +kernel
theorem dX9_can_1 : decode cX9_can 1 = .ok (.iload_n 1, 1) := by decide +kernel
theorem dX9_can_2 : decode cX9_can 2 = .ok (.invokevirtual 282, 3) := by decide +kernel
theorem dX9_can_5 : decode cX9_can 5 = .ok (.ifCond .eq 13, 3) := by decide +kernel
theorem dX9_can_8 : decode cX9_can 8 = .ok (.aload_n 0, 1) := by decide +kernel
theorem dX9_can_9 : decode cX9_can 9 = .ok (.iload_n 2, 1) := by decide +kernel
theorem dX9_can_10 : decode cX9_can 10 = .ok (.iconst 0, 1) := by decide +kernel
theorem dX9_can_11 : decode cX9_can 11 = .ok (.iconst 1, 1) := by decide +kernel
theorem dX9_can_12 : decode cX9_can 12 = .ok (.invokevirtual 274, 3) := by decide +kernel
theorem dX9_can_15 : decode cX9_can 15 = .ok (.ifCond .ne 5, 3) := by decide +kernel
theorem dX9_can_18 : decode cX9_can 18 = .ok (.iconst (-1), 1) := by decide +kernel
theorem dX9_can_19 : decode cX9_can 19 = .ok (.ireturn, 1) := by decide +kernel
theorem dX9_can_20 : decode cX9_can 20 = .ok (.aload_n 0, 1) := by decide +kernel
theorem dX9_can_21 : decode cX9_can 21 = .ok (.getfield 29, 3) := by decide +kernel
theorem dX9_can_24 : decode cX9_can 24 = .ok (.iload_n 1, 1) := by decide +kernel
theorem dX9_can_25 : decode cX9_can 25 = .ok (.iaload, 1) := by decide +kernel
theorem dX9_can_26 : decode cX9_can 26 = .ok (.istore_n 3, 1) := by decide +kernel
theorem dX9_can_27 : decode cX9_can 27 = .ok (.iconst 0, 1) := by decide +kernel
theorem dX9_can_28 : decode cX9_can 28 = .ok (.istore 4, 2) := by decide +kernel
theorem dX9_can_30 : decode cX9_can 30 = .ok (.bipush (-5), 2) := by decide +kernel
theorem dX9_can_32 : decode cX9_can 32 = .ok (.istore 5, 2) := by decide +kernel
theorem dX9_can_34 : decode cX9_can 34 = .ok (.bipush 9, 2) := by decide +kernel
theorem dX9_can_36 : decode cX9_can 36 = .ok (.istore 6, 2) := by decide +kernel
theorem dX9_can_38 : decode cX9_can 38 = .ok (.iload 6, 2) := by decide +kernel
theorem dX9_can_40 : decode cX9_can 40 = .ok (.ifCond .lt 34, 3) := by decide +kernel
theorem dX9_can_43 : decode cX9_can 43 = .ok (.aload_n 0, 1) := by decide +kernel
theorem dX9_can_44 : decode cX9_can 44 = .ok (.getfield 29, 3) := by decide +kernel
theorem dX9_can_47 : decode cX9_can 47 = .ok (.iload_n 1, 1) := by decide +kernel
theorem dX9_can_48 : decode cX9_can 48 = .ok (.iload 6, 2) := by decide +kernel
theorem dX9_can_50 : decode cX9_can 50 = .ok (.iastore, 1) := by decide +kernel
theorem dX9_can_51 : decode cX9_can 51 = .ok (.aload_n 0, 1) := by decide +kernel
theorem dX9_can_52 : decode cX9_can 52 = .ok (.invokevirtual 432, 3) := by decide +kernel
theorem dX9_can_55 : decode cX9_can 55 = .ok (.ifCond .ne 6, 3) := by decide +kernel
theorem dX9_can_58 : decode cX9_can 58 = .ok (.goto 10, 3) := by decide +kernel
theorem dX9_can_61 : decode cX9_can 61 = .ok (.iinc 4 1, 3) := by decide +kernel
theorem dX9_can_64 : decode cX9_can 64 = .ok (.iload 6, 2) := by decide +kernel
theorem dX9_can_66 : decode cX9_can 66 = .ok (.istore 5, 2) := by decide +kernel
theorem dX9_can_68 : decode cX9_can 68 = .ok (.iinc 6 (-1), 3) := by decide +kernel
theorem dX9_can_71 : decode cX9_can 71 = .ok (.goto (-33), 3) := by decide +kernel
theorem dX9_can_74 : decode cX9_can 74 = .ok (.aload_n 0, 1) := by decide +kernel
theorem dX9_can_75 : decode cX9_can 75 = .ok (.getfield 29, 3) := by decide +kernel
theorem dX9_can_78 : decode cX9_can 78 = .ok (.iload_n 1, 1) := by decide +kernel
theorem dX9_can_79 : decode cX9_can 79 = .ok (.iload_n 3, 1) := by decide +kernel
theorem dX9_can_80 : decode cX9_can 80 = .ok (.iastore, 1) := by decide +kernel
theorem dX9_can_81 : decode cX9_can 81 = .ok (.iload_n 2, 1) := by decide +kernel
theorem dX9_can_82 : decode cX9_can 82 = .ok (.ifCond .ne 8, 3) := by decide +kernel
theorem dX9_can_85 : decode cX9_can 85 = .ok (.iload 4, 2) := by decide +kernel
theorem dX9_can_87 : decode cX9_can 87 = .ok (.goto 5, 3) := by decide +kernel
theorem dX9_can_90 : decode cX9_can 90 = .ok (.iload 5, 2) := by decide +kernel
theorem dX9_can_92 : decode cX9_can 92 = .ok (.ireturn, 1) := by decide +kernel
theorem dX9_divisor_0 : decode cX9_divisor 0 = .ok (.iload_n 1, 1) := by decide +kernel
theorem dX9_divisor_1 : decode cX9_divisor 1 = .ok (.istore_n 3, 1) := by decide +kernel
theorem dX9_divisor_2 : decode cX9_divisor 2 = .ok (.iload_n 2, 1) := by decide +kernel
theorem dX9_divisor_3 : decode cX9_divisor 3 = .ok (.istore 4, 2) := by decide +kernel
theorem dX9_divisor_5 : decode cX9_divisor 5 = .ok (.iload 4, 2) := by decide +kernel
theorem dX9_divisor_7 : decode cX9_divisor 7 = .ok (.ifCond .eq 19, 3) := by decide +kernel
theorem dX9_divisor_10 : decode cX9_divisor 10 = .ok (.iload_n 3, 1) := by decide +kernel
theorem dX9_divisor_11 : decode cX9_divisor 11 = .ok (.iload 4, 2) := by decide +kernel
theorem dX9_divisor_13 : decode cX9_divisor 13 = .ok (.irem, 1) := by decide +kernel
theorem dX9_divisor_14 : decode cX9_divisor 14 = .ok (.istore 5, 2) := by decide +kernel
theorem dX9_divisor_16 : decode cX9_divisor 16 = .ok (.iload 4, 2) := by decide +kernel
theorem dX9_divisor_18 : decode cX9_divisor 18 = .ok (.istore_n 3, 1) := by decide +kernel
theorem dX9_divisor_19 : decode cX9_divisor 19 = .ok (.iload 5, 2) := by decide +kernel
theorem dX9_divisor_21 : decode cX9_divisor 21 = .ok (.istore 4, 2) := by decide +kernel
theorem dX9_divisor_23 : decode cX9_divisor 23 = .ok (.goto (-18), 3) := by decide +kernel
theorem dX9_divisor_26 : decode cX9_divisor 26 = .ok (.iload_n 3, 1) := by decide +kernel
theorem dX9_divisor_27 : decode cX9_divisor 27 = .ok (.ireturn, 1) := by decide +kernel
set_option maxRecDepth 20000 in
theorem ggX9_lowest_X9_divisor : GoodIn wsX9_lowest wsX9_divisor := goodIn_r _ [5] (by decide +kernel) (by decide +kernel)
set_option maxRecDepth 20000 in
theorem gX9_lowest_X9_divisor : GoodIn wsX9_lowest (wsV RX9 435 RX9 yX9_divisor wsX9_divisor) := goodIn_app (goodIn_of _ (by decide +kernel)) ggX9_lowest_X9_divisor
theorem dX9_lowest_0 : decode cX9_lowest 0 = .ok (.aload_n 0, 1) := by decide +kernel
theorem dX9_lowest_1 : decode cX9_lowest 1 = .ok (.iload_n 1, 1) := by decide +kernel
theorem dX9_lowest_2 : decode cX9_lowest 2 = .ok (.iload_n 2, 1) := by decide +kernel
theorem dX9_lowest_3 : decode cX9_lowest 3 = .ok (.invokevirtual 435, 3) := by decide +kernel
theorem dX9_lowest_6 : decode cX9_lowest 6 = .ok (.istore 4, 2) := by decide +kernel
theorem dX9_lowest_8 : decode cX9_lowest 8 = .ok (.iload_n 3, 1) := by decide +kernel
theorem dX9_lowest_9 : decode cX9_lowest 9 = .ok (.ifCond .ne 11, 3) := by decide +kernel
theorem dX9_lowest_12 : decode cX9_lowest 12 = .ok (.iload_n 1, 1) := by decide +kernel
theorem dX9_lowest_13 : decode cX9_lowest 13 = .ok (.iload 4, 2) := by decide +kernel
theorem dX9_lowest_15 : decode cX9_lowest 15 = .ok (.idiv, 1) := by decide +kernel
theorem dX9_lowest_16 : decode cX9_lowest 16 = .ok (.i2l, 1) := by decide +kernel
theorem dX9_lowest_17 : decode cX9_lowest 17 = .ok (.goto 8, 3) := by decide +kernel
theorem dX9_lowest_20 : decode cX9_lowest 20 = .ok (.iload_n 2, 1) := by decide +kernel
theorem dX9_lowest_21 : decode cX9_lowest 21 = .ok (.iload 4, 2) := by decide +kernel
theorem dX9_lowest_23 : decode cX9_lowest 23 = .ok (.idiv, 1) := by decide +kernel
theorem dX9_lowest_24 : decode cX9_lowest 24 = .ok (.i2l, 1) := by decide +kernel
theorem dX9_lowest_25 : decode cX9_lowest 25 = .ok (.lreturn, 1) := by decide +kernel
set_option maxRecDepth 20000 in
theorem ggX9_odds_X9_isMaster : GoodIn wsX9_odds wsX9_isMaster := goodIn_r _ [9, 10, 11, 12, 13, 8, 14, 112, 113, 114, 115, 116, 117, 118, 119, 120, 121, 122, 123, 124, 125, 126, 127, 128, 129, 130, 131, 132, 133, 134, 135, 136, 137, 138, 139, 140, 141, 142, 143, 144, 145, 146, 147, 148, 149, 150, 151, 152, 153, 154, 155, 156, 157, 158, 159, 160, 161, 162, 163, 164, 165, 166, 167, 168, 169, 170, 171, 172, 173, 174, 175, 176, 177, 178, 179, 180, 181, 182, 183, 184, 185, 186, 187, 188, 189, 190, 191, 192, 193, 194, 195, 196] (by decide +kernel) (by decide +kernel)
set_option maxRecDepth 20000 in
theorem gX9_odds_X9_isMaster : GoodIn wsX9_odds (wsV RX9 282 RX9 yX9_isMaster wsX9_isMaster) := goodIn_app (goodIn_of _ (by decide +kernel)) ggX9_odds_X9_isMaster
set_option maxRecDepth 20000 in
theorem ggX9_odds_X9_in : GoodIn wsX9_odds wsX9_in := goodIn_r _ [14] (by decide +kernel) (by decide +kernel)
set_option maxRecDepth 20000 in
theorem gX9_odds_X9_in : GoodIn wsX9_odds (wsV RX9 274 RX9 yX9_in wsX9_in) := goodIn_app (goodIn_of _ (by decide +kernel)) ggX9_odds_X9_in
set_option maxRecDepth 20000 in
theorem ggX9_odds_X9_save : GoodIn wsX9_odds wsX9_save := goodIn_r _ [18, 19, 20, 21, 22, 23, 2, 24, 25, 26, 27, 28, 29, 30, 31, 4, 32, 33, 34, 35, 112, 113, 114, 115, 116, 117, 118, 119, 120, 121, 122, 123, 124, 125, 126, 127, 128, 129, 130, 131, 132, 133, 134, 135, 136, 137, 138, 139, 140, 141, 142, 143, 144, 145, 146, 147, 148, 149, 150, 151, 152, 153, 154, 155, 156, 157, 158, 159, 160, 161, 162, 163, 164, 165, 166, 167, 168, 169, 170, 171, 172, 173, 174, 175, 176, 177, 178, 179, 180, 181, 182, 183, 184, 185, 186, 187, 188, 189, 190, 191, 192, 193, 194, 195, 196] (by decide +kernel) (by decide +kernel)
set_option maxRecDepth 20000 in
theorem gX9_odds_X9_save : GoodIn wsX9_odds (wsV RX9 395 RX9 yX9_save wsX9_save) := goodIn_app (goodIn_of _ (by decide +kernel)) ggX9_odds_X9_save
set_option maxRecDepth 20000 in
theorem ggX9_odds_X9_giveGoals : GoodIn wsX9_odds wsX9_giveGoals := goodIn_r _ [39, 4, 40, 41, 42, 8, 43, 2, 44, 45, 46, 47, 48, 49, 50, 51, 10, 52, 53, 54, 55, 56, 57, 58, 59, 22, 33, 60, 61, 62, 63, 30, 64, 65, 35, 27, 66, 67, 68, 69, 70, 71, 72, 73, 74, 75, 76, 77, 78, 79, 80, 81, 82, 83, 84, 85, 86, 87, 88, 89, 90, 91, 92, 93, 94, 95, 96, 97, 98, 112, 113, 114, 115, 116, 117, 118, 119, 120, 121, 122, 123, 124, 125, 126, 127, 128, 129, 130, 131, 132, 133, 134, 135, 136, 137, 138, 139, 140, 141, 142, 143, 144, 145, 146, 147, 148, 149, 150, 151, 152, 153, 154, 155, 156, 157, 158, 159, 160, 161, 162, 163, 164, 165, 166, 167, 168, 169, 170, 171, 172, 173, 174, 175, 176, 177, 178, 179, 180, 181, 182, 183, 184, 185, 186, 187, 188, 189, 190, 191, 192, 193, 194, 195, 196] (by decide +kernel) (by decide +kernel)
set_option maxRecDepth 20000 in
theorem gX9_odds_X9_giveGoals : GoodIn wsX9_odds (wsV RX9 376 RX9 yX9_giveGoals wsX9_giveGoals) := goodIn_app (goodIn_of _ (by decide +kernel)) ggX9_odds_X9_giveGoals
set_option maxRecDepth 20000 in
theorem ggX9_odds_X9_putBack : GoodIn wsX9_odds wsX9_putBack := goodIn_r _ [102, 20, 103, 21, 23, 22, 24, 2, 26, 25, 28, 27, 30, 29, 4, 31, 33, 32, 35, 34, 112, 113, 114, 115, 116, 117, 118, 119, 120, 121, 122, 123, 124, 125, 126, 127, 128, 129, 130, 131, 132, 133, 134, 135, 136, 137, 138, 139, 140, 141, 142, 143, 144, 145, 146, 147, 148, 149, 150, 151, 152, 153, 154, 155, 156, 157, 158, 159, 160, 161, 162, 163, 164, 165, 166, 167, 168, 169, 170, 171, 172, 173, 174, 175, 176, 177, 178, 179, 180, 181, 182, 183, 184, 185, 186, 187, 188, 189, 190, 191, 192, 193, 194, 195, 196] (by decide +kernel) (by decide +kernel)
set_option maxRecDepth 20000 in
theorem gX9_odds_X9_putBack : GoodIn wsX9_odds (wsV RX9 398 RX9 yX9_putBack wsX9_putBack) := goodIn_app (goodIn_of _ (by decide +kernel)) ggX9_odds_X9_putBack
set_option maxRecDepth 20000 in
theorem ggX9_odds_X9_lowest : GoodIn wsX9_odds wsX9_lowest := goodIn_r _ [107, 108, 109, 110, 8, 111] (by decide +kernel) (by decide +kernel)
set_option maxRecDepth 20000 in
theorem gX9_odds_X9_lowest : GoodIn wsX9_odds (wsV RX9 440 RX9 yX9_lowest wsX9_lowest) := goodIn_app (goodIn_of _ (by decide +kernel)) ggX9_odds_X9_lowest
theorem dX9_odds_0 : decode cX9_odds 0 = .ok (.aload_n 0, 1) := by decide +kernel
theorem dX9_odds_1 : decode cX9_odds 1 = .ok (.iload_n 1, 1) := by decide +kernel
theorem dX9_odds_2 : decode cX9_odds 2 = .ok (.invokevirtual 282, 3) := by decide +kernel
theorem dX9_odds_5 : decode cX9_odds 5 = .ok (.ifCond .eq 13, 3) := by decide +kernel
theorem dX9_odds_8 : decode cX9_odds 8 = .ok (.aload_n 0, 1) := by decide +kernel
theorem dX9_odds_9 : decode cX9_odds 9 = .ok (.iload_n 2, 1) := by decide +kernel
theorem dX9_odds_10 : decode cX9_odds 10 = .ok (.iconst 0, 1) := by decide +kernel
theorem dX9_odds_11 : decode cX9_odds 11 = .ok (.iconst 1, 1) := by decide +kernel
theorem dX9_odds_12 : decode cX9_odds 12 = .ok (.invokevirtual 274, 3) := by decide +kernel
theorem dX9_odds_15 : decode cX9_odds 15 = .ok (.ifCond .ne 7, 3) := by decide +kernel
theorem dX9_odds_18 : decode cX9_odds 18 = .ok (.ldc2_w 438, 3) := by decide +kernel
theorem dX9_odds_21 : decode cX9_odds 21 = .ok (.lreturn, 1) := by decide +kernel
theorem dX9_odds_22 : decode cX9_odds 22 = .ok (.iconst 0, 1) := by decide +kernel
theorem dX9_odds_23 : decode cX9_odds 23 = .ok (.istore_n 3, 1) := by decide +kernel
theorem dX9_odds_24 : decode cX9_odds 24 = .ok (.iconst 0, 1) := by decide +kernel
theorem dX9_odds_25 : decode cX9_odds 25 = .ok (.istore 4, 2) := by decide +kernel
theorem dX9_odds_27 : decode cX9_odds 27 = .ok (.iload 4, 2) := by decide +kernel
theorem dX9_odds_29 : decode cX9_odds 29 = .ok (.bipush 10, 2) := by decide +kernel
theorem dX9_odds_31 : decode cX9_odds 31 = .ok (.if_icmp .ge 56, 3) := by decide +kernel
theorem dX9_odds_34 : decode cX9_odds 34 = .ok (.aload_n 0, 1) := by decide +kernel
theorem dX9_odds_35 : decode cX9_odds 35 = .ok (.invokevirtual 395, 3) := by decide +kernel
theorem dX9_odds_38 : decode cX9_odds 38 = .ok (.aload_n 0, 1) := by decide +kernel
theorem dX9_odds_39 : decode cX9_odds 39 = .ok (.dup, 1) := by decide +kernel
theorem dX9_odds_40 : decode cX9_odds 40 = .ok (.getfield 16, 3) := by decide +kernel
theorem dX9_odds_43 : decode cX9_odds 43 = .ok (.iconst 1, 1) := by decide +kernel
theorem dX9_odds_44 : decode cX9_odds 44 = .ok (.aload_n 0, 1) := by decide +kernel
theorem dX9_odds_45 : decode cX9_odds 45 = .ok (.getfield 47, 3) := by decide +kernel
theorem dX9_odds_48 : decode cX9_odds 48 = .ok (.iload 4, 2) := by decide +kernel
theorem dX9_odds_50 : decode cX9_odds 50 = .ok (.iaload, 1) := by decide +kernel
theorem dX9_odds_51 : decode cX9_odds 51 = .ok (.ishl, 1) := by decide +kernel
theorem dX9_odds_52 : decode cX9_odds 52 = .ok (.ior, 1) := by decide +kernel
theorem dX9_odds_53 : decode cX9_odds 53 = .ok (.putfield 16, 3) := by decide +kernel
theorem dX9_odds_56 : decode cX9_odds 56 = .ok (.aload_n 0, 1) := by decide +kernel
theorem dX9_odds_57 : decode cX9_odds 57 = .ok (.invokevirtual 376, 3) := by decide +kernel
theorem dX9_odds_60 : decode cX9_odds 60 = .ok (.iload_n 3, 1) := by decide +kernel
theorem dX9_odds_61 : decode cX9_odds 61 = .ok (.aload_n 0, 1) := by decide +kernel
theorem dX9_odds_62 : decode cX9_odds 62 = .ok (.getfield 35, 3) := by decide +kernel
theorem dX9_odds_65 : decode cX9_odds 65 = .ok (.iload_n 1, 1) := by decide +kernel
theorem dX9_odds_66 : decode cX9_odds 66 = .ok (.iaload, 1) := by decide +kernel
theorem dX9_odds_67 : decode cX9_odds 67 = .ok (.ifCond .lt 7, 3) := by decide +kernel
theorem dX9_odds_70 : decode cX9_odds 70 = .ok (.iconst 1, 1) := by decide +kernel
theorem dX9_odds_71 : decode cX9_odds 71 = .ok (.goto 4, 3) := by decide +kernel
theorem dX9_odds_74 : decode cX9_odds 74 = .ok (.iconst 0, 1) := by decide +kernel
theorem dX9_odds_75 : decode cX9_odds 75 = .ok (.iadd, 1) := by decide +kernel
theorem dX9_odds_76 : decode cX9_odds 76 = .ok (.istore_n 3, 1) := by decide +kernel
theorem dX9_odds_77 : decode cX9_odds 77 = .ok (.aload_n 0, 1) := by decide +kernel
theorem dX9_odds_78 : decode cX9_odds 78 = .ok (.invokevirtual 398, 3) := by decide +kernel
theorem dX9_odds_81 : decode cX9_odds 81 = .ok (.iinc 4 1, 3) := by decide +kernel
theorem dX9_odds_84 : decode cX9_odds 84 = .ok (.goto (-57), 3) := by decide +kernel
theorem dX9_odds_87 : decode cX9_odds 87 = .ok (.aload_n 0, 1) := by decide +kernel
theorem dX9_odds_88 : decode cX9_odds 88 = .ok (.iload_n 3, 1) := by decide +kernel
theorem dX9_odds_89 : decode cX9_odds 89 = .ok (.bipush 10, 2) := by decide +kernel
theorem dX9_odds_91 : decode cX9_odds 91 = .ok (.iload_n 2, 1) := by decide +kernel
theorem dX9_odds_92 : decode cX9_odds 92 = .ok (.invokevirtual 440, 3) := by decide +kernel
theorem dX9_odds_95 : decode cX9_odds 95 = .ok (.lreturn, 1) := by decide +kernel
set_option maxRecDepth 20000 in
theorem ggX9_mean_X9_isMinutes : GoodIn wsX9_mean wsX9_isMinutes := goodIn_r _ [8, 9, 10, 11, 7, 12] (by decide +kernel) (by decide +kernel)
set_option maxRecDepth 20000 in
theorem gX9_mean_X9_isMinutes : GoodIn wsX9_mean (wsV RX9 388 RX9 yX9_isMinutes wsX9_isMinutes) := goodIn_app (goodIn_of _ (by decide +kernel)) ggX9_mean_X9_isMinutes
set_option maxRecDepth 20000 in
theorem ggX9_mean_X9_in : GoodIn wsX9_mean wsX9_in := goodIn_r _ [12] (by decide +kernel) (by decide +kernel)
set_option maxRecDepth 20000 in
theorem gX9_mean_X9_in : GoodIn wsX9_mean (wsV RX9 274 RX9 yX9_in wsX9_in) := goodIn_app (goodIn_of _ (by decide +kernel)) ggX9_mean_X9_in
set_option maxRecDepth 20000 in
theorem ggX9_mean_X9_save : GoodIn wsX9_mean wsX9_save := goodIn_r _ [16, 17, 18, 19, 20, 21, 22, 23, 24, 25, 26, 27, 28, 29, 30, 31, 32, 33, 34, 3, 135, 136, 137, 138, 139, 140, 141, 142, 143, 144, 145, 146, 147, 148, 149, 150, 151, 152, 153, 154, 155, 156, 157, 158, 159, 160, 161, 162, 163, 164, 165, 166, 167, 168, 169, 170, 171, 172, 173, 174, 175, 176, 177, 178, 179, 180, 181, 182, 183, 184, 185, 186, 187, 188, 189, 190, 191, 192, 193, 194, 195, 196, 197, 198, 199, 200, 201, 202, 203, 204, 205, 206, 207, 208, 209, 210, 211, 212, 213, 214, 215, 216, 217, 218, 219] (by decide +kernel) (by decide +kernel)
set_option maxRecDepth 20000 in
theorem gX9_mean_X9_save : GoodIn wsX9_mean (wsV RX9 395 RX9 yX9_save wsX9_save) := goodIn_app (goodIn_of _ (by decide +kernel)) ggX9_mean_X9_save
set_option maxRecDepth 20000 in
theorem ggX9_mean_X9_goMinutes : GoodIn wsX9_mean wsX9_goMinutes := goodIn_r _ [38, 39, 40, 41, 7, 42, 1, 20, 31, 33, 24, 22, 19, 26, 43, 44, 45, 46, 47, 48, 49, 50, 51, 52, 53, 54, 55, 56, 57, 58, 59, 60, 61, 62, 63, 64, 65, 66, 67, 68, 69, 70, 29, 71, 72, 3, 73, 74, 75, 76, 77, 78, 79, 80, 81, 82, 83, 84, 85, 86, 87, 88, 89, 90, 91, 92, 93, 94, 95, 96, 97, 98, 99, 100, 101, 102, 103, 104, 105, 106, 107, 108, 109, 18, 110, 111, 112, 113, 114, 115, 116, 117, 118, 119, 120, 121, 135, 136, 137, 138, 139, 140, 141, 142, 143, 144, 145, 146, 147, 148, 149, 150, 151, 152, 153, 154, 155, 156, 157, 158, 159, 160, 161, 162, 163, 164, 165, 166, 167, 168, 169, 170, 171, 172, 173, 174, 175, 176, 177, 178, 179, 180, 181, 182, 183, 184, 185, 186, 187, 188, 189, 190, 191, 192, 193, 194, 195, 196, 197, 198, 199, 200, 201, 202, 203, 204, 205, 206, 207, 208, 209, 210, 211, 212, 213, 214, 215, 216, 217, 218, 219] (by decide +kernel) (by decide +kernel)
set_option maxRecDepth 20000 in
theorem gX9_mean_X9_goMinutes : GoodIn wsX9_mean (wsV RX9 391 RX9 yX9_goMinutes wsX9_goMinutes) := goodIn_app (goodIn_of _ (by decide +kernel)) ggX9_mean_X9_goMinutes
set_option maxRecDepth 20000 in
theorem ggX9_mean_X9_putBack : GoodIn wsX9_mean wsX9_putBack := goodIn_r _ [125, 18, 126, 19, 21, 20, 23, 22, 25, 24, 27, 26, 29, 28, 31, 30, 33, 32, 3, 34, 135, 136, 137, 138, 139, 140, 141, 142, 143, 144, 145, 146, 147, 148, 149, 150, 151, 152, 153, 154, 155, 156, 157, 158, 159, 160, 161, 162, 163, 164, 165, 166, 167, 168, 169, 170, 171, 172, 173, 174, 175, 176, 177, 178, 179, 180, 181, 182, 183, 184, 185, 186, 187, 188, 189, 190, 191, 192, 193, 194, 195, 196, 197, 198, 199, 200, 201, 202, 203, 204, 205, 206, 207, 208, 209, 210, 211, 212, 213, 214, 215, 216, 217, 218, 219] (by decide +kernel) (by decide +kernel)
set_option maxRecDepth 20000 in
theorem gX9_mean_X9_putBack : GoodIn wsX9_mean (wsV RX9 398 RX9 yX9_putBack wsX9_putBack) := goodIn_app (goodIn_of _ (by decide +kernel)) ggX9_mean_X9_putBack
set_option maxRecDepth 20000 in
theorem ggX9_mean_X9_lowest : GoodIn wsX9_mean wsX9_lowest := goodIn_r _ [130, 131, 132, 133, 7, 134] (by decide +kernel) (by decide +kernel)
set_option maxRecDepth 20000 in
theorem gX9_mean_X9_lowest : GoodIn wsX9_mean (wsV RX9 440 RX9 yX9_lowest wsX9_lowest) := goodIn_app (goodIn_of _ (by decide +kernel)) ggX9_mean_X9_lowest
theorem dX9_mean_0 : decode cX9_mean 0 = .ok (.aload_n 0, 1) := by decide +kernel
theorem dX9_mean_1 : decode cX9_mean 1 = .ok (.iload_n 1, 1) := by decide +kernel
theorem dX9_mean_2 : decode cX9_mean 2 = .ok (.invokevirtual 388, 3) := by decide +kernel
theorem dX9_mean_5 : decode cX9_mean 5 = .ok (.ifCond .eq 20, 3) := by decide +kernel
theorem dX9_mean_8 : decode cX9_mean 8 = .ok (.aload_n 0, 1) := by decide +kernel
theorem dX9_mean_9 : decode cX9_mean 9 = .ok (.iload_n 2, 1) := by decide +kernel
theorem dX9_mean_10 : decode cX9_mean 10 = .ok (.iconst 0, 1) := by decide +kernel
theorem dX9_mean_11 : decode cX9_mean 11 = .ok (.iconst 1, 1) := by decide +kernel
theorem dX9_mean_12 : decode cX9_mean 12 = .ok (.invokevirtual 274, 3) := by decide +kernel
theorem dX9_mean_15 : decode cX9_mean 15 = .ok (.ifCond .eq 10, 3) := by decide +kernel
theorem dX9_mean_18 : decode cX9_mean 18 = .ok (.aload_n 0, 1) := by decide +kernel
theorem dX9_mean_19 : decode cX9_mean 19 = .ok (.getfield 7, 3) := by decide +kernel
theorem dX9_mean_22 : decode cX9_mean 22 = .ok (.ifCond .ne 7, 3) := by decide +kernel
theorem dX9_mean_25 : decode cX9_mean 25 = .ok (.ldc2_w 438, 3) := by decide +kernel
theorem dX9_mean_28 : decode cX9_mean 28 = .ok (.lreturn, 1) := by decide +kernel
theorem dX9_mean_29 : decode cX9_mean 29 = .ok (.aload_n 0, 1) := by decide +kernel
theorem dX9_mean_30 : decode cX9_mean 30 = .ok (.invokevirtual 395, 3) := by decide +kernel
theorem dX9_mean_33 : decode cX9_mean 33 = .ok (.aload_n 0, 1) := by decide +kernel
theorem dX9_mean_34 : decode cX9_mean 34 = .ok (.iload_n 1, 1) := by decide +kernel
theorem dX9_mean_35 : decode cX9_mean 35 = .ok (.invokevirtual 391, 3) := by decide +kernel
theorem dX9_mean_38 : decode cX9_mean 38 = .ok (.iconst 0, 1) := by decide +kernel
theorem dX9_mean_39 : decode cX9_mean 39 = .ok (.istore_n 3, 1) := by decide +kernel
theorem dX9_mean_40 : decode cX9_mean 40 = .ok (.iconst 0, 1) := by decide +kernel
theorem dX9_mean_41 : decode cX9_mean 41 = .ok (.istore 4, 2) := by decide +kernel
theorem dX9_mean_43 : decode cX9_mean 43 = .ok (.iload 4, 2) := by decide +kernel
theorem dX9_mean_45 : decode cX9_mean 45 = .ok (.aload_n 0, 1) := by decide +kernel
theorem dX9_mean_46 : decode cX9_mean 46 = .ok (.getfield 7, 3) := by decide +kernel
theorem dX9_mean_49 : decode cX9_mean 49 = .ok (.if_icmp .ge 19, 3) := by decide +kernel
theorem dX9_mean_52 : decode cX9_mean 52 = .ok (.iload_n 3, 1) := by decide +kernel
theorem dX9_mean_53 : decode cX9_mean 53 = .ok (.aload_n 0, 1) := by decide +kernel
theorem dX9_mean_54 : decode cX9_mean 54 = .ok (.getfield 41, 3) := by decide +kernel
theorem dX9_mean_57 : decode cX9_mean 57 = .ok (.iload 4, 2) := by decide +kernel
theorem dX9_mean_59 : decode cX9_mean 59 = .ok (.iaload, 1) := by decide +kernel
theorem dX9_mean_60 : decode cX9_mean 60 = .ok (.iadd, 1) := by decide +kernel
theorem dX9_mean_61 : decode cX9_mean 61 = .ok (.istore_n 3, 1) := by decide +kernel
theorem dX9_mean_62 : decode cX9_mean 62 = .ok (.iinc 4 1, 3) := by decide +kernel
theorem dX9_mean_65 : decode cX9_mean 65 = .ok (.goto (-22), 3) := by decide +kernel
theorem dX9_mean_68 : decode cX9_mean 68 = .ok (.aload_n 0, 1) := by decide +kernel
theorem dX9_mean_69 : decode cX9_mean 69 = .ok (.invokevirtual 398, 3) := by decide +kernel
theorem dX9_mean_72 : decode cX9_mean 72 = .ok (.aload_n 0, 1) := by decide +kernel
theorem dX9_mean_73 : decode cX9_mean 73 = .ok (.iload_n 3, 1) := by decide +kernel
theorem dX9_mean_74 : decode cX9_mean 74 = .ok (.aload_n 0, 1) := by decide +kernel
theorem dX9_mean_75 : decode cX9_mean 75 = .ok (.getfield 7, 3) := by decide +kernel
theorem dX9_mean_78 : decode cX9_mean 78 = .ok (.iload_n 2, 1) := by decide +kernel
theorem dX9_mean_79 : decode cX9_mean 79 = .ok (.invokevirtual 440, 3) := by decide +kernel
theorem dX9_mean_82 : decode cX9_mean 82 = .ok (.lreturn, 1) := by decide +kernel
set_option maxRecDepth 20000 in
theorem ggX9_plan_X9_in : GoodIn wsX9_plan wsX9_in := goodIn_r _ [8] (by decide +kernel) (by decide +kernel)
set_option maxRecDepth 20000 in
theorem gX9_plan_X9_in : GoodIn wsX9_plan (wsV RX9 274 RX9 yX9_in wsX9_in) := goodIn_app (goodIn_of _ (by decide +kernel)) ggX9_plan_X9_in
set_option maxRecDepth 20000 in
theorem ggX9_plan_X9_isFloor : GoodIn wsX9_plan wsX9_isFloor := goodIn_r _ [12, 4, 5, 6, 7, 8] (by decide +kernel) (by decide +kernel)
set_option maxRecDepth 20000 in
theorem gX9_plan_X9_isFloor : GoodIn wsX9_plan (wsV RX9 278 RX9 yX9_isFloor wsX9_isFloor) := goodIn_app (goodIn_of _ (by decide +kernel)) ggX9_plan_X9_isFloor
set_option maxRecDepth 20000 in
theorem ggX9_plan_X9_isMaster : GoodIn wsX9_plan wsX9_isMaster := goodIn_r _ [16, 17, 4, 5, 6, 7, 8, 18, 19, 20, 21, 22, 23, 24, 25, 26, 27, 28, 29, 30, 31, 32, 33, 34, 35, 36, 37, 38, 39, 40, 41, 42, 43, 44, 45, 46, 47, 48, 49, 50, 51, 52, 53, 54, 55, 56, 57, 58, 59, 60, 61, 62, 63, 64, 65, 66, 67, 68, 69, 70, 71, 72, 73, 74, 75, 76, 77, 78, 79, 80, 81, 82, 83, 84, 85, 86, 87, 88, 89, 90, 91, 92, 93, 94, 95, 96, 97, 98, 99, 100, 101, 102] (by decide +kernel) (by decide +kernel)
set_option maxRecDepth 20000 in
theorem gX9_plan_X9_isMaster : GoodIn wsX9_plan (wsV RX9 282 RX9 yX9_isMaster wsX9_isMaster) := goodIn_app (goodIn_of _ (by decide +kernel)) ggX9_plan_X9_isMaster
theorem dX9_plan_0 : decode cX9_plan 0 = .ok (.iload_n 1, 1) := by decide +kernel
theorem dX9_plan_1 : decode cX9_plan 1 = .ok (.iconst (-1), 1) := by decide +kernel
theorem dX9_plan_2 : decode cX9_plan 2 = .ok (.if_icmp .ne 10, 3) := by decide +kernel
theorem dX9_plan_5 : decode cX9_plan 5 = .ok (.aload_n 0, 1) := by decide +kernel
theorem dX9_plan_6 : decode cX9_plan 6 = .ok (.iconst 0, 1) := by decide +kernel
theorem dX9_plan_7 : decode cX9_plan 7 = .ok (.putfield 157, 3) := by decide +kernel
theorem dX9_plan_10 : decode cX9_plan 10 = .ok (.iconst 0, 1) := by decide +kernel
theorem dX9_plan_11 : decode cX9_plan 11 = .ok (.ireturn, 1) := by decide +kernel
theorem dX9_plan_12 : decode cX9_plan 12 = .ok (.aload_n 0, 1) := by decide +kernel
theorem dX9_plan_13 : decode cX9_plan 13 = .ok (.iload_n 1, 1) := by decide +kernel
theorem dX9_plan_14 : decode cX9_plan 14 = .ok (.iconst 0, 1) := by decide +kernel
theorem dX9_plan_15 : decode cX9_plan 15 = .ok (.iconst 3, 1) := by decide +kernel
theorem dX9_plan_16 : decode cX9_plan 16 = .ok (.invokevirtual 274, 3) := by decide +kernel
theorem dX9_plan_19 : decode cX9_plan 19 = .ok (.ifCond .eq 29, 3) := by decide +kernel
theorem dX9_plan_22 : decode cX9_plan 22 = .ok (.iload_n 1, 1) := by decide +kernel
theorem dX9_plan_23 : decode cX9_plan 23 = .ok (.iconst 1, 1) := by decide +kernel
theorem dX9_plan_24 : decode cX9_plan 24 = .ok (.if_icmp .ne 11, 3) := by decide +kernel
theorem dX9_plan_27 : decode cX9_plan 27 = .ok (.aload_n 0, 1) := by decide +kernel
theorem dX9_plan_28 : decode cX9_plan 28 = .ok (.iload_n 2, 1) := by decide +kernel
theorem dX9_plan_29 : decode cX9_plan 29 = .ok (.invokevirtual 278, 3) := by decide +kernel
theorem dX9_plan_32 : decode cX9_plan 32 = .ok (.ifCond .eq 16, 3) := by decide +kernel
theorem dX9_plan_35 : decode cX9_plan 35 = .ok (.iload_n 1, 1) := by decide +kernel
theorem dX9_plan_36 : decode cX9_plan 36 = .ok (.iconst 1, 1) := by decide +kernel
theorem dX9_plan_37 : decode cX9_plan 37 = .ok (.if_icmp .le 13, 3) := by decide +kernel
theorem dX9_plan_40 : decode cX9_plan 40 = .ok (.aload_n 0, 1) := by decide +kernel
theorem dX9_plan_41 : decode cX9_plan 41 = .ok (.iload_n 2, 1) := by decide +kernel
theorem dX9_plan_42 : decode cX9_plan 42 = .ok (.invokevirtual 282, 3) := by decide +kernel
theorem dX9_plan_45 : decode cX9_plan 45 = .ok (.ifCond .ne 5, 3) := by decide +kernel
theorem dX9_plan_48 : decode cX9_plan 48 = .ok (.iconst (-1), 1) := by decide +kernel
theorem dX9_plan_49 : decode cX9_plan 49 = .ok (.ireturn, 1) := by decide +kernel
theorem dX9_plan_50 : decode cX9_plan 50 = .ok (.aload_n 0, 1) := by decide +kernel
theorem dX9_plan_51 : decode cX9_plan 51 = .ok (.getfield 157, 3) := by decide +kernel
theorem dX9_plan_54 : decode cX9_plan 54 = .ok (.bipush 10, 2) := by decide +kernel
theorem dX9_plan_56 : decode cX9_plan 56 = .ok (.if_icmp .ne 6, 3) := by decide +kernel
theorem dX9_plan_59 : decode cX9_plan 59 = .ok (.bipush (-4), 2) := by decide +kernel
theorem dX9_plan_61 : decode cX9_plan 61 = .ok (.ireturn, 1) := by decide +kernel
theorem dX9_plan_62 : decode cX9_plan 62 = .ok (.aload_n 0, 1) := by decide +kernel
theorem dX9_plan_63 : decode cX9_plan 63 = .ok (.getfield 163, 3) := by decide +kernel
theorem dX9_plan_66 : decode cX9_plan 66 = .ok (.aload_n 0, 1) := by decide +kernel
theorem dX9_plan_67 : decode cX9_plan 67 = .ok (.getfield 157, 3) := by decide +kernel
theorem dX9_plan_70 : decode cX9_plan 70 = .ok (.iload_n 1, 1) := by decide +kernel
theorem dX9_plan_71 : decode cX9_plan 71 = .ok (.iastore, 1) := by decide +kernel
theorem dX9_plan_72 : decode cX9_plan 72 = .ok (.aload_n 0, 1) := by decide +kernel
theorem dX9_plan_73 : decode cX9_plan 73 = .ok (.getfield 166, 3) := by decide +kernel
theorem dX9_plan_76 : decode cX9_plan 76 = .ok (.aload_n 0, 1) := by decide +kernel
theorem dX9_plan_77 : decode cX9_plan 77 = .ok (.getfield 157, 3) := by decide +kernel
theorem dX9_plan_80 : decode cX9_plan 80 = .ok (.iload_n 1, 1) := by decide +kernel
theorem dX9_plan_81 : decode cX9_plan 81 = .ok (.ifCond .le 7, 3) := by decide +kernel
theorem dX9_plan_84 : decode cX9_plan 84 = .ok (.iload_n 2, 1) := by decide +kernel
theorem dX9_plan_85 : decode cX9_plan 85 = .ok (.goto 4, 3) := by decide +kernel
theorem dX9_plan_88 : decode cX9_plan 88 = .ok (.iconst 0, 1) := by decide +kernel
theorem dX9_plan_89 : decode cX9_plan 89 = .ok (.iastore, 1) := by decide +kernel
theorem dX9_plan_90 : decode cX9_plan 90 = .ok (.aload_n 0, 1) := by decide +kernel
theorem dX9_plan_91 : decode cX9_plan 91 = .ok (.dup, 1) := by decide +kernel
theorem dX9_plan_92 : decode cX9_plan 92 = .ok (.getfield 157, 3) := by decide +kernel
theorem dX9_plan_95 : decode cX9_plan 95 = .ok (.iconst 1, 1) := by decide +kernel
theorem dX9_plan_96 : decode cX9_plan 96 = .ok (.iadd, 1) := by decide +kernel
theorem dX9_plan_97 : decode cX9_plan 97 = .ok (.putfield 157, 3) := by decide +kernel
theorem dX9_plan_100 : decode cX9_plan 100 = .ok (.aload_n 0, 1) := by decide +kernel
theorem dX9_plan_101 : decode cX9_plan 101 = .ok (.getfield 157, 3) := by decide +kernel
theorem dX9_plan_104 : decode cX9_plan 104 = .ok (.ireturn, 1) := by decide +kernel
set_option maxRecDepth 20000 in
theorem ggX9_goPlan_X9_goMinute : GoodIn wsX9_goPlan wsX9_goMinute := goodIn_r _ [7, 8, 9, 10, 11, 12, 1, 13, 14, 15, 16, 17, 6, 18, 19, 20, 21, 22, 23, 24, 25, 26, 27, 28, 29, 30, 31, 32, 33, 34, 35, 36, 37, 38, 39, 40, 41, 42, 43, 44, 45, 46, 47, 48, 49, 50, 51, 52, 53, 54, 55, 56, 57, 58, 59, 60, 61, 62, 63, 64, 65, 66, 67, 68, 69, 70, 71, 72, 73, 74, 75, 76, 77, 78, 79, 80, 81, 82, 83, 84, 85, 86, 87, 88, 89, 90, 91, 92, 93, 94, 95, 96, 101, 102, 103, 104, 105, 106, 107, 108, 109, 110, 111, 112, 113, 114, 115, 116, 117, 118, 119, 120, 121, 122, 123, 124, 125, 126, 127, 128, 129, 130, 131, 132, 133, 134, 135, 136, 137, 138, 139, 140, 141, 142, 143, 144, 145, 146, 147, 148, 149, 150, 151, 152, 153, 154, 155, 156, 157, 158, 159, 160, 161, 162, 163, 164, 165, 166, 167, 168, 169, 170, 171, 172, 173, 174, 175, 176, 177, 178, 179, 180, 181, 182, 183, 184, 185] (by decide +kernel) (by decide +kernel)
set_option maxRecDepth 20000 in
theorem gX9_goPlan_X9_goMinute : GoodIn wsX9_goPlan (wsV RX9 385 RX9 yX9_goMinute wsX9_goMinute) := goodIn_app (goodIn_of _ (by decide +kernel)) ggX9_goPlan_X9_goMinute
set_option maxRecDepth 20000 in
theorem ggX9_goPlan_X9_goes : GoodIn wsX9_goPlan wsX9_goes := goodIn_r _ [100, 9, 101, 102, 103, 104, 105, 106, 107, 108, 109, 110, 111, 112, 113, 114, 115, 116, 117, 118, 119, 120, 121, 122, 123, 124, 125, 126, 127, 128, 129, 130, 131, 132, 133, 134, 135, 136, 137, 138, 139, 140, 141, 142, 143, 144, 145, 146, 147, 148, 149, 150, 151, 152, 153, 154, 155, 156, 157, 158, 159, 160, 161, 162, 163, 164, 165, 166, 167, 168, 169, 170, 171, 172, 173, 174, 175, 176, 177, 178, 179, 180, 181, 182, 183, 184, 185] (by decide +kernel) (by decide +kernel)
set_option maxRecDepth 20000 in
theorem gX9_goPlan_X9_goes : GoodIn wsX9_goPlan (wsV RX9 285 RX9 yX9_goes wsX9_goes) := goodIn_app (goodIn_of _ (by decide +kernel)) ggX9_goPlan_X9_goes
theorem dX9_goPlan_0 : decode cX9_goPlan 0 = .ok (.iload_n 1, 1) := by decide +kernel
theorem dX9_goPlan_1 : decode cX9_goPlan 1 = .ok (.ifCond .ne 7, 3) := by decide +kernel
theorem dX9_goPlan_4 : decode cX9_goPlan 4 = .ok (.aload_n 0, 1) := by decide +kernel
theorem dX9_goPlan_5 : decode cX9_goPlan 5 = .ok (.invokevirtual 385, 3) := by decide +kernel
theorem dX9_goPlan_8 : decode cX9_goPlan 8 = .ok (.iload_n 1, 1) := by decide +kernel
theorem dX9_goPlan_9 : decode cX9_goPlan 9 = .ok (.iconst 1, 1) := by decide +kernel
theorem dX9_goPlan_10 : decode cX9_goPlan 10 = .ok (.if_icmp .ne 20, 3) := by decide +kernel
theorem dX9_goPlan_13 : decode cX9_goPlan 13 = .ok (.aload_n 0, 1) := by decide +kernel
theorem dX9_goPlan_14 : decode cX9_goPlan 14 = .ok (.dup, 1) := by decide +kernel
theorem dX9_goPlan_15 : decode cX9_goPlan 15 = .ok (.getfield 16, 3) := by decide +kernel
theorem dX9_goPlan_18 : decode cX9_goPlan 18 = .ok (.iconst 1, 1) := by decide +kernel
theorem dX9_goPlan_19 : decode cX9_goPlan 19 = .ok (.aload_n 0, 1) := by decide +kernel
theorem dX9_goPlan_20 : decode cX9_goPlan 20 = .ok (.getfield 47, 3) := by decide +kernel
theorem dX9_goPlan_23 : decode cX9_goPlan 23 = .ok (.iload_n 2, 1) := by decide +kernel
theorem dX9_goPlan_24 : decode cX9_goPlan 24 = .ok (.iaload, 1) := by decide +kernel
theorem dX9_goPlan_25 : decode cX9_goPlan 25 = .ok (.ishl, 1) := by decide +kernel
theorem dX9_goPlan_26 : decode cX9_goPlan 26 = .ok (.ior, 1) := by decide +kernel
theorem dX9_goPlan_27 : decode cX9_goPlan 27 = .ok (.putfield 16, 3) := by decide +kernel
theorem dX9_goPlan_30 : decode cX9_goPlan 30 = .ok (.iload_n 1, 1) := by decide +kernel
theorem dX9_goPlan_31 : decode cX9_goPlan 31 = .ok (.iconst 1, 1) := by decide +kernel
theorem dX9_goPlan_32 : decode cX9_goPlan 32 = .ok (.if_icmp .le 18, 3) := by decide +kernel
theorem dX9_goPlan_35 : decode cX9_goPlan 35 = .ok (.aload_n 0, 1) := by decide +kernel
theorem dX9_goPlan_36 : decode cX9_goPlan 36 = .ok (.iload_n 2, 1) := by decide +kernel
theorem dX9_goPlan_37 : decode cX9_goPlan 37 = .ok (.iload_n 1, 1) := by decide +kernel
theorem dX9_goPlan_38 : decode cX9_goPlan 38 = .ok (.iconst 2, 1) := by decide +kernel
theorem dX9_goPlan_39 : decode cX9_goPlan 39 = .ok (.if_icmp .ne 7, 3) := by decide +kernel
theorem dX9_goPlan_42 : decode cX9_goPlan 42 = .ok (.iconst 1, 1) := by decide +kernel
theorem dX9_goPlan_43 : decode cX9_goPlan 43 = .ok (.goto 4, 3) := by decide +kernel
theorem dX9_goPlan_46 : decode cX9_goPlan 46 = .ok (.iconst 0, 1) := by decide +kernel
theorem dX9_goPlan_47 : decode cX9_goPlan 47 = .ok (.invokevirtual 285, 3) := by decide +kernel
theorem dX9_goPlan_50 : decode cX9_goPlan 50 = .ok (.return_, 1) := by decide +kernel
set_option maxRecDepth 20000 in
theorem ggX9_ends_X9_in : GoodIn wsX9_ends wsX9_in := goodIn_r _ [10] (by decide +kernel) (by decide +kernel)
set_option maxRecDepth 20000 in
theorem gX9_ends_X9_in : GoodIn wsX9_ends (wsV RX9 274 RX9 yX9_in wsX9_in) := goodIn_app (goodIn_of _ (by decide +kernel)) ggX9_ends_X9_in
set_option maxRecDepth 20000 in
theorem ggX9_ends_X9_save : GoodIn wsX9_ends wsX9_save := goodIn_r _ [14, 15, 16, 17, 18, 19, 5, 20, 4, 21, 22, 23, 24, 25, 26, 27, 28, 29, 30, 31, 130, 131, 132, 133, 134, 135, 136, 137, 138, 139, 140, 141, 142, 143, 144, 145, 146, 147, 148, 149, 150, 151, 152, 153, 154, 155, 156, 157, 158, 159, 160, 161, 162, 163, 164, 165, 166, 167, 168, 169, 170, 171, 172, 173, 174, 175, 176, 177, 178, 179, 180, 181, 182, 183, 184, 185, 186, 187, 188, 189, 190, 191, 192, 193, 194, 195, 196, 197, 198, 199, 200, 201, 202, 203, 204, 205, 206, 207, 208, 209, 210, 211, 212, 213, 214] (by decide +kernel) (by decide +kernel)
set_option maxRecDepth 20000 in
theorem gX9_ends_X9_save : GoodIn wsX9_ends (wsV RX9 395 RX9 yX9_save wsX9_save) := goodIn_app (goodIn_of _ (by decide +kernel)) ggX9_ends_X9_save
set_option maxRecDepth 20000 in
theorem ggX9_ends_X9_goPlan : GoodIn wsX9_ends wsX9_goPlan := goodIn_r _ [35, 5, 36, 37, 38, 39, 9, 40, 41, 18, 27, 29, 4, 17, 22, 42, 43, 44, 45, 46, 47, 48, 49, 50, 51, 52, 53, 54, 55, 56, 57, 58, 59, 60, 61, 62, 63, 64, 65, 66, 67, 68, 69, 25, 70, 71, 31, 72, 73, 74, 75, 76, 77, 78, 79, 80, 81, 82, 83, 84, 85, 86, 87, 88, 89, 90, 91, 92, 93, 94, 95, 96, 97, 98, 99, 100, 101, 102, 103, 104, 105, 106, 107, 108, 16, 109, 110, 111, 112, 113, 114, 115, 116, 117, 118, 119, 120, 121, 122, 123, 124, 130, 131, 132, 133, 134, 135, 136, 137, 138, 139, 140, 141, 142, 143, 144, 145, 146, 147, 148, 149, 150, 151, 152, 153, 154, 155, 156, 157, 158, 159, 160, 161, 162, 163, 164, 165, 166, 167, 168, 169, 170, 171, 172, 173, 174, 175, 176, 177, 178, 179, 180, 181, 182, 183, 184, 185, 186, 187, 188, 189, 190, 191, 192, 193, 194, 195, 196, 197, 198, 199, 200, 201, 202, 203, 204, 205, 206, 207, 208, 209, 210, 211, 212, 213, 214] (by decide +kernel) (by decide +kernel)
set_option maxRecDepth 20000 in
theorem gX9_ends_X9_goPlan : GoodIn wsX9_ends (wsV RX9 444 RX9 yX9_goPlan wsX9_goPlan) := goodIn_app (goodIn_of _ (by decide +kernel)) ggX9_ends_X9_goPlan
set_option maxRecDepth 20000 in
theorem ggX9_ends_X9_putBack : GoodIn wsX9_ends wsX9_putBack := goodIn_r _ [128, 16, 129, 17, 19, 18, 20, 5, 21, 4, 23, 22, 25, 24, 27, 26, 29, 28, 31, 30, 130, 131, 132, 133, 134, 135, 136, 137, 138, 139, 140, 141, 142, 143, 144, 145, 146, 147, 148, 149, 150, 151, 152, 153, 154, 155, 156, 157, 158, 159, 160, 161, 162, 163, 164, 165, 166, 167, 168, 169, 170, 171, 172, 173, 174, 175, 176, 177, 178, 179, 180, 181, 182, 183, 184, 185, 186, 187, 188, 189, 190, 191, 192, 193, 194, 195, 196, 197, 198, 199, 200, 201, 202, 203, 204, 205, 206, 207, 208, 209, 210, 211, 212, 213, 214] (by decide +kernel) (by decide +kernel)
set_option maxRecDepth 20000 in
theorem gX9_ends_X9_putBack : GoodIn wsX9_ends (wsV RX9 398 RX9 yX9_putBack wsX9_putBack) := goodIn_app (goodIn_of _ (by decide +kernel)) ggX9_ends_X9_putBack
theorem dX9_ends_0 : decode cX9_ends 0 = .ok (.aload_n 0, 1) := by decide +kernel
theorem dX9_ends_1 : decode cX9_ends 1 = .ok (.iload_n 1, 1) := by decide +kernel
theorem dX9_ends_2 : decode cX9_ends 2 = .ok (.iconst 0, 1) := by decide +kernel
theorem dX9_ends_3 : decode cX9_ends 3 = .ok (.iconst 1, 1) := by decide +kernel
theorem dX9_ends_4 : decode cX9_ends 4 = .ok (.invokevirtual 274, 3) := by decide +kernel
theorem dX9_ends_7 : decode cX9_ends 7 = .ok (.ifCond .ne 5, 3) := by decide +kernel
theorem dX9_ends_10 : decode cX9_ends 10 = .ok (.iconst (-1), 1) := by decide +kernel
theorem dX9_ends_11 : decode cX9_ends 11 = .ok (.ireturn, 1) := by decide +kernel
theorem dX9_ends_12 : decode cX9_ends 12 = .ok (.aload_n 0, 1) := by decide +kernel
theorem dX9_ends_13 : decode cX9_ends 13 = .ok (.invokevirtual 395, 3) := by decide +kernel
theorem dX9_ends_16 : decode cX9_ends 16 = .ok (.iconst 0, 1) := by decide +kernel
theorem dX9_ends_17 : decode cX9_ends 17 = .ok (.istore_n 2, 1) := by decide +kernel
theorem dX9_ends_18 : decode cX9_ends 18 = .ok (.iload_n 2, 1) := by decide +kernel
theorem dX9_ends_19 : decode cX9_ends 19 = .ok (.aload_n 0, 1) := by decide +kernel
theorem dX9_ends_20 : decode cX9_ends 20 = .ok (.getfield 157, 3) := by decide +kernel
theorem dX9_ends_23 : decode cX9_ends 23 = .ok (.if_icmp .ge 25, 3) := by decide +kernel
theorem dX9_ends_26 : decode cX9_ends 26 = .ok (.aload_n 0, 1) := by decide +kernel
theorem dX9_ends_27 : decode cX9_ends 27 = .ok (.aload_n 0, 1) := by decide +kernel
theorem dX9_ends_28 : decode cX9_ends 28 = .ok (.getfield 163, 3) := by decide +kernel
theorem dX9_ends_31 : decode cX9_ends 31 = .ok (.iload_n 2, 1) := by decide +kernel
theorem dX9_ends_32 : decode cX9_ends 32 = .ok (.iaload, 1) := by decide +kernel
theorem dX9_ends_33 : decode cX9_ends 33 = .ok (.aload_n 0, 1) := by decide +kernel
theorem dX9_ends_34 : decode cX9_ends 34 = .ok (.getfield 166, 3) := by decide +kernel
theorem dX9_ends_37 : decode cX9_ends 37 = .ok (.iload_n 2, 1) := by decide +kernel
theorem dX9_ends_38 : decode cX9_ends 38 = .ok (.iaload, 1) := by decide +kernel
theorem dX9_ends_39 : decode cX9_ends 39 = .ok (.invokevirtual 444, 3) := by decide +kernel
theorem dX9_ends_42 : decode cX9_ends 42 = .ok (.iinc 2 1, 3) := by decide +kernel
theorem dX9_ends_45 : decode cX9_ends 45 = .ok (.goto (-27), 3) := by decide +kernel
theorem dX9_ends_48 : decode cX9_ends 48 = .ok (.iload_n 1, 1) := by decide +kernel
theorem dX9_ends_49 : decode cX9_ends 49 = .ok (.ifCond .ne 10, 3) := by decide +kernel
theorem dX9_ends_52 : decode cX9_ends 52 = .ok (.aload_n 0, 1) := by decide +kernel
theorem dX9_ends_53 : decode cX9_ends 53 = .ok (.getfield 19, 3) := by decide +kernel
theorem dX9_ends_56 : decode cX9_ends 56 = .ok (.goto 7, 3) := by decide +kernel
theorem dX9_ends_59 : decode cX9_ends 59 = .ok (.aload_n 0, 1) := by decide +kernel
theorem dX9_ends_60 : decode cX9_ends 60 = .ok (.getfield 16, 3) := by decide +kernel
theorem dX9_ends_63 : decode cX9_ends 63 = .ok (.istore_n 2, 1) := by decide +kernel
theorem dX9_ends_64 : decode cX9_ends 64 = .ok (.aload_n 0, 1) := by decide +kernel
theorem dX9_ends_65 : decode cX9_ends 65 = .ok (.invokevirtual 398, 3) := by decide +kernel
theorem dX9_ends_68 : decode cX9_ends 68 = .ok (.iload_n 2, 1) := by decide +kernel
theorem dX9_ends_69 : decode cX9_ends 69 = .ok (.ireturn, 1) := by decide +kernel
set_option maxRecDepth 20000 in
theorem ggX9_book_X9_isMaster : GoodIn wsX9_book wsX9_isMaster := goodIn_r _ [8, 9, 10, 11, 12, 7, 13, 18, 19, 20, 21, 22, 23, 24, 25, 26, 27, 28, 29, 30, 31, 32, 33, 34, 35, 36, 37, 38, 39, 40, 41, 42, 43, 44, 45, 46, 47, 48, 49, 50, 51, 52, 53, 54, 55, 56, 57, 58, 59, 60, 61, 62, 63, 64, 65, 66, 67, 68, 69, 70, 71, 72, 73, 74, 75, 76, 77, 78, 79, 80, 81, 82, 83, 84, 85, 86, 87, 88, 89, 90, 91, 92, 93, 94, 95, 96, 97, 98, 99, 100, 101, 102] (by decide +kernel) (by decide +kernel)
set_option maxRecDepth 20000 in
theorem gX9_book_X9_isMaster : GoodIn wsX9_book (wsV RX9 282 RX9 yX9_isMaster wsX9_isMaster) := goodIn_app (goodIn_of _ (by decide +kernel)) ggX9_book_X9_isMaster
set_option maxRecDepth 20000 in
theorem ggX9_book_X9_isFloor : GoodIn wsX9_book wsX9_isFloor := goodIn_r _ [17, 10, 11, 12, 7, 13] (by decide +kernel) (by decide +kernel)
set_option maxRecDepth 20000 in
theorem gX9_book_X9_isFloor : GoodIn wsX9_book (wsV RX9 278 RX9 yX9_isFloor wsX9_isFloor) := goodIn_app (goodIn_of _ (by decide +kernel)) ggX9_book_X9_isFloor
theorem dX9_book_0 : decode cX9_book 0 = .ok (.iload_n 1, 1) := by decide +kernel
theorem dX9_book_1 : decode cX9_book 1 = .ok (.iconst (-1), 1) := by decide +kernel
theorem dX9_book_2 : decode cX9_book 2 = .ok (.if_icmp .ne 10, 3) := by decide +kernel
theorem dX9_book_5 : decode cX9_book 5 = .ok (.aload_n 0, 1) := by decide +kernel
theorem dX9_book_6 : decode cX9_book 6 = .ok (.iconst 0, 1) := by decide +kernel
theorem dX9_book_7 : decode cX9_book 7 = .ok (.putfield 160, 3) := by decide +kernel
theorem dX9_book_10 : decode cX9_book 10 = .ok (.iconst 0, 1) := by decide +kernel
theorem dX9_book_11 : decode cX9_book 11 = .ok (.ireturn, 1) := by decide +kernel
theorem dX9_book_12 : decode cX9_book 12 = .ok (.aload_n 0, 1) := by decide +kernel
theorem dX9_book_13 : decode cX9_book 13 = .ok (.iload_n 1, 1) := by decide +kernel
theorem dX9_book_14 : decode cX9_book 14 = .ok (.invokevirtual 282, 3) := by decide +kernel
theorem dX9_book_17 : decode cX9_book 17 = .ok (.ifCond .eq 11, 3) := by decide +kernel
theorem dX9_book_20 : decode cX9_book 20 = .ok (.aload_n 0, 1) := by decide +kernel
theorem dX9_book_21 : decode cX9_book 21 = .ok (.iload_n 2, 1) := by decide +kernel
theorem dX9_book_22 : decode cX9_book 22 = .ok (.invokevirtual 278, 3) := by decide +kernel
theorem dX9_book_25 : decode cX9_book 25 = .ok (.ifCond .ne 5, 3) := by decide +kernel
theorem dX9_book_28 : decode cX9_book 28 = .ok (.iconst (-1), 1) := by decide +kernel
theorem dX9_book_29 : decode cX9_book 29 = .ok (.ireturn, 1) := by decide +kernel
theorem dX9_book_30 : decode cX9_book 30 = .ok (.aload_n 0, 1) := by decide +kernel
theorem dX9_book_31 : decode cX9_book 31 = .ok (.getfield 160, 3) := by decide +kernel
theorem dX9_book_34 : decode cX9_book 34 = .ok (.bipush 8, 2) := by decide +kernel
theorem dX9_book_36 : decode cX9_book 36 = .ok (.if_icmp .ne 6, 3) := by decide +kernel
theorem dX9_book_39 : decode cX9_book 39 = .ok (.bipush (-4), 2) := by decide +kernel
theorem dX9_book_41 : decode cX9_book 41 = .ok (.ireturn, 1) := by decide +kernel
theorem dX9_book_42 : decode cX9_book 42 = .ok (.aload_n 0, 1) := by decide +kernel
theorem dX9_book_43 : decode cX9_book 43 = .ok (.getfield 169, 3) := by decide +kernel
theorem dX9_book_46 : decode cX9_book 46 = .ok (.aload_n 0, 1) := by decide +kernel
theorem dX9_book_47 : decode cX9_book 47 = .ok (.getfield 160, 3) := by decide +kernel
theorem dX9_book_50 : decode cX9_book 50 = .ok (.iload_n 1, 1) := by decide +kernel
theorem dX9_book_51 : decode cX9_book 51 = .ok (.iastore, 1) := by decide +kernel
theorem dX9_book_52 : decode cX9_book 52 = .ok (.aload_n 0, 1) := by decide +kernel
theorem dX9_book_53 : decode cX9_book 53 = .ok (.getfield 172, 3) := by decide +kernel
theorem dX9_book_56 : decode cX9_book 56 = .ok (.aload_n 0, 1) := by decide +kernel
theorem dX9_book_57 : decode cX9_book 57 = .ok (.getfield 160, 3) := by decide +kernel
theorem dX9_book_60 : decode cX9_book 60 = .ok (.iload_n 2, 1) := by decide +kernel
theorem dX9_book_61 : decode cX9_book 61 = .ok (.iastore, 1) := by decide +kernel
theorem dX9_book_62 : decode cX9_book 62 = .ok (.aload_n 0, 1) := by decide +kernel
theorem dX9_book_63 : decode cX9_book 63 = .ok (.dup, 1) := by decide +kernel
theorem dX9_book_64 : decode cX9_book 64 = .ok (.getfield 160, 3) := by decide +kernel
theorem dX9_book_67 : decode cX9_book 67 = .ok (.iconst 1, 1) := by decide +kernel
theorem dX9_book_68 : decode cX9_book 68 = .ok (.iadd, 1) := by decide +kernel
theorem dX9_book_69 : decode cX9_book 69 = .ok (.putfield 160, 3) := by decide +kernel
theorem dX9_book_72 : decode cX9_book 72 = .ok (.aload_n 0, 1) := by decide +kernel
theorem dX9_book_73 : decode cX9_book 73 = .ok (.getfield 160, 3) := by decide +kernel
theorem dX9_book_76 : decode cX9_book 76 = .ok (.ireturn, 1) := by decide +kernel
theorem dX9_looked_0 : decode cX9_looked 0 = .ok (.iconst 0, 1) := by decide +kernel
theorem dX9_looked_1 : decode cX9_looked 1 = .ok (.istore_n 1, 1) := by decide +kernel
theorem dX9_looked_2 : decode cX9_looked 2 = .ok (.iload_n 1, 1) := by decide +kernel
theorem dX9_looked_3 : decode cX9_looked 3 = .ok (.aload_n 0, 1) := by decide +kernel
theorem dX9_looked_4 : decode cX9_looked 4 = .ok (.getfield 160, 3) := by decide +kernel
theorem dX9_looked_7 : decode cX9_looked 7 = .ok (.if_icmp .ge 31, 3) := by decide +kernel
theorem dX9_looked_10 : decode cX9_looked 10 = .ok (.aload_n 0, 1) := by decide +kernel
theorem dX9_looked_11 : decode cX9_looked 11 = .ok (.getfield 32, 3) := by decide +kernel
theorem dX9_looked_14 : decode cX9_looked 14 = .ok (.aload_n 0, 1) := by decide +kernel
theorem dX9_looked_15 : decode cX9_looked 15 = .ok (.getfield 169, 3) := by decide +kernel
theorem dX9_looked_18 : decode cX9_looked 18 = .ok (.iload_n 1, 1) := by decide +kernel
theorem dX9_looked_19 : decode cX9_looked 19 = .ok (.iaload, 1) := by decide +kernel
theorem dX9_looked_20 : decode cX9_looked 20 = .ok (.iaload, 1) := by decide +kernel
theorem dX9_looked_21 : decode cX9_looked 21 = .ok (.aload_n 0, 1) := by decide +kernel
theorem dX9_looked_22 : decode cX9_looked 22 = .ok (.getfield 172, 3) := by decide +kernel
theorem dX9_looked_25 : decode cX9_looked 25 = .ok (.iload_n 1, 1) := by decide +kernel
theorem dX9_looked_26 : decode cX9_looked 26 = .ok (.iaload, 1) := by decide +kernel
theorem dX9_looked_27 : decode cX9_looked 27 = .ok (.if_icmp .eq 5, 3) := by decide +kernel
theorem dX9_looked_30 : decode cX9_looked 30 = .ok (.iload_n 1, 1) := by decide +kernel
theorem dX9_looked_31 : decode cX9_looked 31 = .ok (.ireturn, 1) := by decide +kernel
theorem dX9_looked_32 : decode cX9_looked 32 = .ok (.iinc 1 1, 3) := by decide +kernel
theorem dX9_looked_35 : decode cX9_looked 35 = .ok (.goto (-33), 3) := by decide +kernel
theorem dX9_looked_38 : decode cX9_looked 38 = .ok (.bipush (-5), 2) := by decide +kernel
theorem dX9_looked_40 : decode cX9_looked 40 = .ok (.ireturn, 1) := by decide +kernel
set_option maxRecDepth 20000 in
theorem ggX9_judge_X9_isTape : GoodIn wsX9_judge wsX9_isTape := goodIn_r _ [9, 10, 11, 12, 8, 13] (by decide +kernel) (by decide +kernel)
set_option maxRecDepth 20000 in
theorem gX9_judge_X9_isTape : GoodIn wsX9_judge (wsV RX9 447 RX9 yX9_isTape wsX9_isTape) := goodIn_app (goodIn_of _ (by decide +kernel)) ggX9_judge_X9_isTape
theorem dX9_judge_0 : decode cX9_judge 0 = .ok (.aload_n 0, 1) := by decide +kernel
theorem dX9_judge_1 : decode cX9_judge 1 = .ok (.iload_n 1, 1) := by decide +kernel
theorem dX9_judge_2 : decode cX9_judge 2 = .ok (.invokevirtual 447, 3) := by decide +kernel
theorem dX9_judge_5 : decode cX9_judge 5 = .ok (.ifCond .ne 5, 3) := by decide +kernel
theorem dX9_judge_8 : decode cX9_judge 8 = .ok (.iconst (-1), 1) := by decide +kernel
theorem dX9_judge_9 : decode cX9_judge 9 = .ok (.ireturn, 1) := by decide +kernel
theorem dX9_judge_10 : decode cX9_judge 10 = .ok (.aload_n 0, 1) := by decide +kernel
theorem dX9_judge_11 : decode cX9_judge 11 = .ok (.getfield 257, 3) := by decide +kernel
theorem dX9_judge_14 : decode cX9_judge 14 = .ok (.iload_n 1, 1) := by decide +kernel
theorem dX9_judge_15 : decode cX9_judge 15 = .ok (.iaload, 1) := by decide +kernel
theorem dX9_judge_16 : decode cX9_judge 16 = .ok (.ifCond .le 6, 3) := by decide +kernel
theorem dX9_judge_19 : decode cX9_judge 19 = .ok (.bipush (-12), 2) := by decide +kernel
theorem dX9_judge_21 : decode cX9_judge 21 = .ok (.ireturn, 1) := by decide +kernel
theorem dX9_judge_22 : decode cX9_judge 22 = .ok (.iconst 0, 1) := by decide +kernel
theorem dX9_judge_23 : decode cX9_judge 23 = .ok (.istore_n 3, 1) := by decide +kernel
theorem dX9_judge_24 : decode cX9_judge 24 = .ok (.iload_n 3, 1) := by decide +kernel
theorem dX9_judge_25 : decode cX9_judge 25 = .ok (.bipush 10, 2) := by decide +kernel
theorem dX9_judge_27 : decode cX9_judge 27 = .ok (.if_icmp .ge 67, 3) := by decide +kernel
theorem dX9_judge_30 : decode cX9_judge 30 = .ok (.aload_n 0, 1) := by decide +kernel
theorem dX9_judge_31 : decode cX9_judge 31 = .ok (.getfield 257, 3) := by decide +kernel
theorem dX9_judge_34 : decode cX9_judge 34 = .ok (.iload_n 1, 1) := by decide +kernel
theorem dX9_judge_35 : decode cX9_judge 35 = .ok (.iaload, 1) := by decide +kernel
theorem dX9_judge_36 : decode cX9_judge 36 = .ok (.ifCond .lt 21, 3) := by decide +kernel
theorem dX9_judge_39 : decode cX9_judge 39 = .ok (.iload_n 2, 1) := by decide +kernel
theorem dX9_judge_40 : decode cX9_judge 40 = .ok (.ifCond .lt 17, 3) := by decide +kernel
theorem dX9_judge_43 : decode cX9_judge 43 = .ok (.iload_n 2, 1) := by decide +kernel
theorem dX9_judge_44 : decode cX9_judge 44 = .ok (.aload_n 0, 1) := by decide +kernel
theorem dX9_judge_45 : decode cX9_judge 45 = .ok (.getfield 260, 3) := by decide +kernel
theorem dX9_judge_48 : decode cX9_judge 48 = .ok (.iload_n 1, 1) := by decide +kernel
theorem dX9_judge_49 : decode cX9_judge 49 = .ok (.iaload, 1) := by decide +kernel
theorem dX9_judge_50 : decode cX9_judge 50 = .ok (.iload_n 3, 1) := by decide +kernel
theorem dX9_judge_51 : decode cX9_judge 51 = .ok (.isub, 1) := by decide +kernel
theorem dX9_judge_52 : decode cX9_judge 52 = .ok (.iconst 1, 1) := by decide +kernel
theorem dX9_judge_53 : decode cX9_judge 53 = .ok (.isub, 1) := by decide +kernel
theorem dX9_judge_54 : decode cX9_judge 54 = .ok (.if_icmp .le 8, 3) := by decide +kernel
theorem dX9_judge_57 : decode cX9_judge 57 = .ok (.bipush 100, 2) := by decide +kernel
theorem dX9_judge_59 : decode cX9_judge 59 = .ok (.iload_n 3, 1) := by decide +kernel
theorem dX9_judge_60 : decode cX9_judge 60 = .ok (.iadd, 1) := by decide +kernel
theorem dX9_judge_61 : decode cX9_judge 61 = .ok (.ireturn, 1) := by decide +kernel
theorem dX9_judge_62 : decode cX9_judge 62 = .ok (.aload_n 0, 1) := by decide +kernel
theorem dX9_judge_63 : decode cX9_judge 63 = .ok (.getfield 263, 3) := by decide +kernel
theorem dX9_judge_66 : decode cX9_judge 66 = .ok (.bipush 60, 2) := by decide +kernel
theorem dX9_judge_68 : decode cX9_judge 68 = .ok (.iload_n 1, 1) := by decide +kernel
theorem dX9_judge_69 : decode cX9_judge 69 = .ok (.imul, 1) := by decide +kernel
theorem dX9_judge_70 : decode cX9_judge 70 = .ok (.iload_n 2, 1) := by decide +kernel
theorem dX9_judge_71 : decode cX9_judge 71 = .ok (.iadd, 1) := by decide +kernel
theorem dX9_judge_72 : decode cX9_judge 72 = .ok (.iload_n 3, 1) := by decide +kernel
theorem dX9_judge_73 : decode cX9_judge 73 = .ok (.iadd, 1) := by decide +kernel
theorem dX9_judge_74 : decode cX9_judge 74 = .ok (.laload, 1) := by decide +kernel
theorem dX9_judge_75 : decode cX9_judge 75 = .ok (.aload_n 0, 1) := by decide +kernel
theorem dX9_judge_76 : decode cX9_judge 76 = .ok (.getfield 47, 3) := by decide +kernel
theorem dX9_judge_79 : decode cX9_judge 79 = .ok (.iload_n 3, 1) := by decide +kernel
theorem dX9_judge_80 : decode cX9_judge 80 = .ok (.iaload, 1) := by decide +kernel
theorem dX9_judge_81 : decode cX9_judge 81 = .ok (.i2l, 1) := by decide +kernel
theorem dX9_judge_82 : decode cX9_judge 82 = .ok (.lcmp, 1) := by decide +kernel
theorem dX9_judge_83 : decode cX9_judge 83 = .ok (.ifCond .eq 5, 3) := by decide +kernel
theorem dX9_judge_86 : decode cX9_judge 86 = .ok (.iload_n 3, 1) := by decide +kernel
theorem dX9_judge_87 : decode cX9_judge 87 = .ok (.ireturn, 1) := by decide +kernel
theorem dX9_judge_88 : decode cX9_judge 88 = .ok (.iinc 3 1, 3) := by decide +kernel
theorem dX9_judge_91 : decode cX9_judge 91 = .ok (.goto (-67), 3) := by decide +kernel
theorem dX9_judge_94 : decode cX9_judge 94 = .ok (.bipush (-5), 2) := by decide +kernel
theorem dX9_judge_96 : decode cX9_judge 96 = .ok (.ireturn, 1) := by decide +kernel
theorem dX9_image_0 : decode cX9_image 0 = .ok (.aload_n 0, 1) := by decide +kernel
theorem dX9_image_1 : decode cX9_image 1 = .ok (.iconst 1, 1) := by decide +kernel
theorem dX9_image_2 : decode cX9_image 2 = .ok (.putfield 175, 3) := by decide +kernel
theorem dX9_image_5 : decode cX9_image 5 = .ok (.aload_n 0, 1) := by decide +kernel
theorem dX9_image_6 : decode cX9_image 6 = .ok (.aload_n 0, 1) := by decide +kernel
theorem dX9_image_7 : decode cX9_image 7 = .ok (.getfield 53, 3) := by decide +kernel
theorem dX9_image_10 : decode cX9_image 10 = .ok (.putfield 179, 3) := by decide +kernel
theorem dX9_image_13 : decode cX9_image 13 = .ok (.aload_n 0, 1) := by decide +kernel
theorem dX9_image_14 : decode cX9_image 14 = .ok (.aload_n 0, 1) := by decide +kernel
theorem dX9_image_15 : decode cX9_image 15 = .ok (.getfield 7, 3) := by decide +kernel
theorem dX9_image_18 : decode cX9_image 18 = .ok (.putfield 182, 3) := by decide +kernel
theorem dX9_image_21 : decode cX9_image 21 = .ok (.aload_n 0, 1) := by decide +kernel
theorem dX9_image_22 : decode cX9_image 22 = .ok (.aload_n 0, 1) := by decide +kernel
theorem dX9_image_23 : decode cX9_image 23 = .ok (.getfield 13, 3) := by decide +kernel
theorem dX9_image_26 : decode cX9_image 26 = .ok (.putfield 185, 3) := by decide +kernel
theorem dX9_image_29 : decode cX9_image 29 = .ok (.aload_n 0, 1) := by decide +kernel
theorem dX9_image_30 : decode cX9_image 30 = .ok (.aload_n 0, 1) := by decide +kernel
theorem dX9_image_31 : decode cX9_image 31 = .ok (.getfield 16, 3) := by decide +kernel
theorem dX9_image_34 : decode cX9_image 34 = .ok (.putfield 188, 3) := by decide +kernel
theorem dX9_image_37 : decode cX9_image 37 = .ok (.aload_n 0, 1) := by decide +kernel
theorem dX9_image_38 : decode cX9_image 38 = .ok (.aload_n 0, 1) := by decide +kernel
theorem dX9_image_39 : decode cX9_image 39 = .ok (.getfield 19, 3) := by decide +kernel
theorem dX9_image_42 : decode cX9_image 42 = .ok (.putfield 191, 3) := by decide +kernel
theorem dX9_image_45 : decode cX9_image 45 = .ok (.aload_n 0, 1) := by decide +kernel
theorem dX9_image_46 : decode cX9_image 46 = .ok (.aload_n 0, 1) := by decide +kernel
theorem dX9_image_47 : decode cX9_image 47 = .ok (.getfield 22, 3) := by decide +kernel
theorem dX9_image_50 : decode cX9_image 50 = .ok (.putfield 194, 3) := by decide +kernel
theorem dX9_image_53 : decode cX9_image 53 = .ok (.aload_n 0, 1) := by decide +kernel
theorem dX9_image_54 : decode cX9_image 54 = .ok (.aload_n 0, 1) := by decide +kernel
theorem dX9_image_55 : decode cX9_image 55 = .ok (.getfield 145, 3) := by decide +kernel
theorem dX9_image_58 : decode cX9_image 58 = .ok (.putfield 197, 3) := by decide +kernel
theorem dX9_image_61 : decode cX9_image 61 = .ok (.aload_n 0, 1) := by decide +kernel
theorem dX9_image_62 : decode cX9_image 62 = .ok (.aload_n 0, 1) := by decide +kernel
theorem dX9_image_63 : decode cX9_image 63 = .ok (.getfield 157, 3) := by decide +kernel
theorem dX9_image_66 : decode cX9_image 66 = .ok (.putfield 200, 3) := by decide +kernel
theorem dX9_image_69 : decode cX9_image 69 = .ok (.aload_n 0, 1) := by decide +kernel
theorem dX9_image_70 : decode cX9_image 70 = .ok (.aload_n 0, 1) := by decide +kernel
theorem dX9_image_71 : decode cX9_image 71 = .ok (.getfield 160, 3) := by decide +kernel
theorem dX9_image_74 : decode cX9_image 74 = .ok (.putfield 203, 3) := by decide +kernel
theorem dX9_image_77 : decode cX9_image 77 = .ok (.iconst 0, 1) := by decide +kernel
theorem dX9_image_78 : decode cX9_image 78 = .ok (.istore_n 1, 1) := by decide +kernel
theorem dX9_image_79 : decode cX9_image 79 = .ok (.iload_n 1, 1) := by decide +kernel
theorem dX9_image_80 : decode cX9_image 80 = .ok (.bipush 6, 2) := by decide +kernel
theorem dX9_image_82 : decode cX9_image 82 = .ok (.if_icmp .ge 81, 3) := by decide +kernel
theorem dX9_image_85 : decode cX9_image 85 = .ok (.aload_n 0, 1) := by decide +kernel
theorem dX9_image_86 : decode cX9_image 86 = .ok (.getfield 206, 3) := by decide +kernel
theorem dX9_image_89 : decode cX9_image 89 = .ok (.iload_n 1, 1) := by decide +kernel
theorem dX9_image_90 : decode cX9_image 90 = .ok (.aload_n 0, 1) := by decide +kernel
theorem dX9_image_91 : decode cX9_image 91 = .ok (.getfield 25, 3) := by decide +kernel
theorem dX9_image_94 : decode cX9_image 94 = .ok (.iload_n 1, 1) := by decide +kernel
theorem dX9_image_95 : decode cX9_image 95 = .ok (.iaload, 1) := by decide +kernel
theorem dX9_image_96 : decode cX9_image 96 = .ok (.iastore, 1) := by decide +kernel
theorem dX9_image_97 : decode cX9_image 97 = .ok (.aload_n 0, 1) := by decide +kernel
theorem dX9_image_98 : decode cX9_image 98 = .ok (.getfield 209, 3) := by decide +kernel
theorem dX9_image_101 : decode cX9_image 101 = .ok (.iload_n 1, 1) := by decide +kernel
theorem dX9_image_102 : decode cX9_image 102 = .ok (.aload_n 0, 1) := by decide +kernel
theorem dX9_image_103 : decode cX9_image 103 = .ok (.getfield 29, 3) := by decide +kernel
theorem dX9_image_106 : decode cX9_image 106 = .ok (.iload_n 1, 1) := by decide +kernel
theorem dX9_image_107 : decode cX9_image 107 = .ok (.iaload, 1) := by decide +kernel
theorem dX9_image_108 : decode cX9_image 108 = .ok (.iastore, 1) := by decide +kernel
theorem dX9_image_109 : decode cX9_image 109 = .ok (.aload_n 0, 1) := by decide +kernel
theorem dX9_image_110 : decode cX9_image 110 = .ok (.getfield 212, 3) := by decide +kernel
theorem dX9_image_113 : decode cX9_image 113 = .ok (.iload_n 1, 1) := by decide +kernel
theorem dX9_image_114 : decode cX9_image 114 = .ok (.aload_n 0, 1) := by decide +kernel
theorem dX9_image_115 : decode cX9_image 115 = .ok (.getfield 32, 3) := by decide +kernel
theorem dX9_image_118 : decode cX9_image 118 = .ok (.iload_n 1, 1) := by decide +kernel
theorem dX9_image_119 : decode cX9_image 119 = .ok (.iaload, 1) := by decide +kernel
theorem dX9_image_120 : decode cX9_image 120 = .ok (.iastore, 1) := by decide +kernel
theorem dX9_image_121 : decode cX9_image 121 = .ok (.aload_n 0, 1) := by decide +kernel
theorem dX9_image_122 : decode cX9_image 122 = .ok (.getfield 215, 3) := by decide +kernel
theorem dX9_image_125 : decode cX9_image 125 = .ok (.iload_n 1, 1) := by decide +kernel
theorem dX9_image_126 : decode cX9_image 126 = .ok (.aload_n 0, 1) := by decide +kernel
theorem dX9_image_127 : decode cX9_image 127 = .ok (.getfield 35, 3) := by decide +kernel
theorem dX9_image_130 : decode cX9_image 130 = .ok (.iload_n 1, 1) := by decide +kernel
theorem dX9_image_131 : decode cX9_image 131 = .ok (.iaload, 1) := by decide +kernel
theorem dX9_image_132 : decode cX9_image 132 = .ok (.iastore, 1) := by decide +kernel
theorem dX9_image_133 : decode cX9_image 133 = .ok (.aload_n 0, 1) := by decide +kernel
theorem dX9_image_134 : decode cX9_image 134 = .ok (.getfield 218, 3) := by decide +kernel
theorem dX9_image_137 : decode cX9_image 137 = .ok (.iload_n 1, 1) := by decide +kernel
theorem dX9_image_138 : decode cX9_image 138 = .ok (.aload_n 0, 1) := by decide +kernel
theorem dX9_image_139 : decode cX9_image 139 = .ok (.getfield 38, 3) := by decide +kernel
theorem dX9_image_142 : decode cX9_image 142 = .ok (.iload_n 1, 1) := by decide +kernel
theorem dX9_image_143 : decode cX9_image 143 = .ok (.iaload, 1) := by decide +kernel
theorem dX9_image_144 : decode cX9_image 144 = .ok (.iastore, 1) := by decide +kernel
theorem dX9_image_145 : decode cX9_image 145 = .ok (.aload_n 0, 1) := by decide +kernel
theorem dX9_image_146 : decode cX9_image 146 = .ok (.getfield 221, 3) := by decide +kernel
theorem dX9_image_149 : decode cX9_image 149 = .ok (.iload_n 1, 1) := by decide +kernel
theorem dX9_image_150 : decode cX9_image 150 = .ok (.aload_n 0, 1) := by decide +kernel
theorem dX9_image_151 : decode cX9_image 151 = .ok (.getfield 41, 3) := by decide +kernel
theorem dX9_image_154 : decode cX9_image 154 = .ok (.iload_n 1, 1) := by decide +kernel
theorem dX9_image_155 : decode cX9_image 155 = .ok (.iaload, 1) := by decide +kernel
theorem dX9_image_156 : decode cX9_image 156 = .ok (.iastore, 1) := by decide +kernel
theorem dX9_image_157 : decode cX9_image 157 = .ok (.iinc 1 1, 3) := by decide +kernel
theorem dX9_image_160 : decode cX9_image 160 = .ok (.goto (-81), 3) := by decide +kernel
theorem dX9_image_163 : decode cX9_image 163 = .ok (.iconst 0, 1) := by decide +kernel
theorem dX9_image_164 : decode cX9_image 164 = .ok (.istore_n 1, 1) := by decide +kernel
theorem dX9_image_165 : decode cX9_image 165 = .ok (.iload_n 1, 1) := by decide +kernel
theorem dX9_image_166 : decode cX9_image 166 = .ok (.bipush 24, 2) := by decide +kernel
theorem dX9_image_168 : decode cX9_image 168 = .ok (.if_icmp .ge 21, 3) := by decide +kernel
theorem dX9_image_171 : decode cX9_image 171 = .ok (.aload_n 0, 1) := by decide +kernel
theorem dX9_image_172 : decode cX9_image 172 = .ok (.getfield 224, 3) := by decide +kernel
theorem dX9_image_175 : decode cX9_image 175 = .ok (.iload_n 1, 1) := by decide +kernel
theorem dX9_image_176 : decode cX9_image 176 = .ok (.aload_n 0, 1) := by decide +kernel
theorem dX9_image_177 : decode cX9_image 177 = .ok (.getfield 44, 3) := by decide +kernel
theorem dX9_image_180 : decode cX9_image 180 = .ok (.iload_n 1, 1) := by decide +kernel
theorem dX9_image_181 : decode cX9_image 181 = .ok (.iaload, 1) := by decide +kernel
theorem dX9_image_182 : decode cX9_image 182 = .ok (.iastore, 1) := by decide +kernel
theorem dX9_image_183 : decode cX9_image 183 = .ok (.iinc 1 1, 3) := by decide +kernel
theorem dX9_image_186 : decode cX9_image 186 = .ok (.goto (-21), 3) := by decide +kernel
theorem dX9_image_189 : decode cX9_image 189 = .ok (.iconst 0, 1) := by decide +kernel
theorem dX9_image_190 : decode cX9_image 190 = .ok (.istore_n 1, 1) := by decide +kernel
theorem dX9_image_191 : decode cX9_image 191 = .ok (.iload_n 1, 1) := by decide +kernel
theorem dX9_image_192 : decode cX9_image 192 = .ok (.iconst 5, 1) := by decide +kernel
theorem dX9_image_193 : decode cX9_image 193 = .ok (.if_icmp .ge 45, 3) := by decide +kernel
theorem dX9_image_196 : decode cX9_image 196 = .ok (.aload_n 0, 1) := by decide +kernel
theorem dX9_image_197 : decode cX9_image 197 = .ok (.getfield 230, 3) := by decide +kernel
theorem dX9_image_200 : decode cX9_image 200 = .ok (.iload_n 1, 1) := by decide +kernel
theorem dX9_image_201 : decode cX9_image 201 = .ok (.aload_n 0, 1) := by decide +kernel
theorem dX9_image_202 : decode cX9_image 202 = .ok (.getfield 148, 3) := by decide +kernel
theorem dX9_image_205 : decode cX9_image 205 = .ok (.iload_n 1, 1) := by decide +kernel
theorem dX9_image_206 : decode cX9_image 206 = .ok (.iaload, 1) := by decide +kernel
theorem dX9_image_207 : decode cX9_image 207 = .ok (.iastore, 1) := by decide +kernel
theorem dX9_image_208 : decode cX9_image 208 = .ok (.aload_n 0, 1) := by decide +kernel
theorem dX9_image_209 : decode cX9_image 209 = .ok (.getfield 233, 3) := by decide +kernel
theorem dX9_image_212 : decode cX9_image 212 = .ok (.iload_n 1, 1) := by decide +kernel
theorem dX9_image_213 : decode cX9_image 213 = .ok (.aload_n 0, 1) := by decide +kernel
theorem dX9_image_214 : decode cX9_image 214 = .ok (.getfield 151, 3) := by decide +kernel
theorem dX9_image_217 : decode cX9_image 217 = .ok (.iload_n 1, 1) := by decide +kernel
theorem dX9_image_218 : decode cX9_image 218 = .ok (.iaload, 1) := by decide +kernel
theorem dX9_image_219 : decode cX9_image 219 = .ok (.iastore, 1) := by decide +kernel
theorem dX9_image_220 : decode cX9_image 220 = .ok (.aload_n 0, 1) := by decide +kernel
theorem dX9_image_221 : decode cX9_image 221 = .ok (.getfield 236, 3) := by decide +kernel
theorem dX9_image_224 : decode cX9_image 224 = .ok (.iload_n 1, 1) := by decide +kernel
theorem dX9_image_225 : decode cX9_image 225 = .ok (.aload_n 0, 1) := by decide +kernel
theorem dX9_image_226 : decode cX9_image 226 = .ok (.getfield 154, 3) := by decide +kernel
theorem dX9_image_229 : decode cX9_image 229 = .ok (.iload_n 1, 1) := by decide +kernel
theorem dX9_image_230 : decode cX9_image 230 = .ok (.iaload, 1) := by decide +kernel
theorem dX9_image_231 : decode cX9_image 231 = .ok (.iastore, 1) := by decide +kernel
theorem dX9_image_232 : decode cX9_image 232 = .ok (.iinc 1 1, 3) := by decide +kernel
theorem dX9_image_235 : decode cX9_image 235 = .ok (.goto (-44), 3) := by decide +kernel
theorem dX9_image_238 : decode cX9_image 238 = .ok (.iconst 0, 1) := by decide +kernel
theorem dX9_image_239 : decode cX9_image 239 = .ok (.istore_n 1, 1) := by decide +kernel
theorem dX9_image_240 : decode cX9_image 240 = .ok (.iload_n 1, 1) := by decide +kernel
theorem dX9_image_241 : decode cX9_image 241 = .ok (.bipush 10, 2) := by decide +kernel
theorem dX9_image_243 : decode cX9_image 243 = .ok (.if_icmp .ge 45, 3) := by decide +kernel
theorem dX9_image_246 : decode cX9_image 246 = .ok (.aload_n 0, 1) := by decide +kernel
theorem dX9_image_247 : decode cX9_image 247 = .ok (.getfield 227, 3) := by decide +kernel
theorem dX9_image_250 : decode cX9_image 250 = .ok (.iload_n 1, 1) := by decide +kernel
theorem dX9_image_251 : decode cX9_image 251 = .ok (.aload_n 0, 1) := by decide +kernel
theorem dX9_image_252 : decode cX9_image 252 = .ok (.getfield 47, 3) := by decide +kernel
theorem dX9_image_255 : decode cX9_image 255 = .ok (.iload_n 1, 1) := by decide +kernel
theorem dX9_image_256 : decode cX9_image 256 = .ok (.iaload, 1) := by decide +kernel
theorem dX9_image_257 : decode cX9_image 257 = .ok (.iastore, 1) := by decide +kernel
theorem dX9_image_258 : decode cX9_image 258 = .ok (.aload_n 0, 1) := by decide +kernel
theorem dX9_image_259 : decode cX9_image 259 = .ok (.getfield 239, 3) := by decide +kernel
theorem dX9_image_262 : decode cX9_image 262 = .ok (.iload_n 1, 1) := by decide +kernel
theorem dX9_image_263 : decode cX9_image 263 = .ok (.aload_n 0, 1) := by decide +kernel
theorem dX9_image_264 : decode cX9_image 264 = .ok (.getfield 163, 3) := by decide +kernel
theorem dX9_image_267 : decode cX9_image 267 = .ok (.iload_n 1, 1) := by decide +kernel
theorem dX9_image_268 : decode cX9_image 268 = .ok (.iaload, 1) := by decide +kernel
theorem dX9_image_269 : decode cX9_image 269 = .ok (.iastore, 1) := by decide +kernel
theorem dX9_image_270 : decode cX9_image 270 = .ok (.aload_n 0, 1) := by decide +kernel
theorem dX9_image_271 : decode cX9_image 271 = .ok (.getfield 242, 3) := by decide +kernel
theorem dX9_image_274 : decode cX9_image 274 = .ok (.iload_n 1, 1) := by decide +kernel
theorem dX9_image_275 : decode cX9_image 275 = .ok (.aload_n 0, 1) := by decide +kernel
theorem dX9_image_276 : decode cX9_image 276 = .ok (.getfield 166, 3) := by decide +kernel
theorem dX9_image_279 : decode cX9_image 279 = .ok (.iload_n 1, 1) := by decide +kernel
theorem dX9_image_280 : decode cX9_image 280 = .ok (.iaload, 1) := by decide +kernel
theorem dX9_image_281 : decode cX9_image 281 = .ok (.iastore, 1) := by decide +kernel
theorem dX9_image_282 : decode cX9_image 282 = .ok (.iinc 1 1, 3) := by decide +kernel
theorem dX9_image_285 : decode cX9_image 285 = .ok (.goto (-45), 3) := by decide +kernel
theorem dX9_image_288 : decode cX9_image 288 = .ok (.iconst 0, 1) := by decide +kernel
theorem dX9_image_289 : decode cX9_image 289 = .ok (.istore_n 1, 1) := by decide +kernel
theorem dX9_image_290 : decode cX9_image 290 = .ok (.iload_n 1, 1) := by decide +kernel
theorem dX9_image_291 : decode cX9_image 291 = .ok (.bipush 8, 2) := by decide +kernel
theorem dX9_image_293 : decode cX9_image 293 = .ok (.if_icmp .ge 33, 3) := by decide +kernel
theorem dX9_image_296 : decode cX9_image 296 = .ok (.aload_n 0, 1) := by decide +kernel
theorem dX9_image_297 : decode cX9_image 297 = .ok (.getfield 245, 3) := by decide +kernel
theorem dX9_image_300 : decode cX9_image 300 = .ok (.iload_n 1, 1) := by decide +kernel
theorem dX9_image_301 : decode cX9_image 301 = .ok (.aload_n 0, 1) := by decide +kernel
theorem dX9_image_302 : decode cX9_image 302 = .ok (.getfield 169, 3) := by decide +kernel
theorem dX9_image_305 : decode cX9_image 305 = .ok (.iload_n 1, 1) := by decide +kernel
theorem dX9_image_306 : decode cX9_image 306 = .ok (.iaload, 1) := by decide +kernel
theorem dX9_image_307 : decode cX9_image 307 = .ok (.iastore, 1) := by decide +kernel
theorem dX9_image_308 : decode cX9_image 308 = .ok (.aload_n 0, 1) := by decide +kernel
theorem dX9_image_309 : decode cX9_image 309 = .ok (.getfield 248, 3) := by decide +kernel
theorem dX9_image_312 : decode cX9_image 312 = .ok (.iload_n 1, 1) := by decide +kernel
theorem dX9_image_313 : decode cX9_image 313 = .ok (.aload_n 0, 1) := by decide +kernel
theorem dX9_image_314 : decode cX9_image 314 = .ok (.getfield 172, 3) := by decide +kernel
theorem dX9_image_317 : decode cX9_image 317 = .ok (.iload_n 1, 1) := by decide +kernel
theorem dX9_image_318 : decode cX9_image 318 = .ok (.iaload, 1) := by decide +kernel
theorem dX9_image_319 : decode cX9_image 319 = .ok (.iastore, 1) := by decide +kernel
theorem dX9_image_320 : decode cX9_image 320 = .ok (.iinc 1 1, 3) := by decide +kernel
theorem dX9_image_323 : decode cX9_image 323 = .ok (.goto (-33), 3) := by decide +kernel
theorem dX9_image_326 : decode cX9_image 326 = .ok (.aload_n 0, 1) := by decide +kernel
theorem dX9_image_327 : decode cX9_image 327 = .ok (.getfield 7, 3) := by decide +kernel
theorem dX9_image_330 : decode cX9_image 330 = .ok (.ireturn, 1) := by decide +kernel
theorem dX9_undo_0 : decode cX9_undo 0 = .ok (.aload_n 0, 1) := by decide +kernel
theorem dX9_undo_1 : decode cX9_undo 1 = .ok (.getfield 175, 3) := by decide +kernel
theorem dX9_undo_4 : decode cX9_undo 4 = .ok (.ifCond .ne 6, 3) := by decide +kernel
theorem dX9_undo_7 : decode cX9_undo 7 = .ok (.bipush (-3), 2) := by decide +kernel
theorem dX9_undo_9 : decode cX9_undo 9 = .ok (.ireturn, 1) := by decide +kernel
theorem dX9_undo_10 : decode cX9_undo 10 = .ok (.aload_n 0, 1) := by decide +kernel
theorem dX9_undo_11 : decode cX9_undo 11 = .ok (.aload_n 0, 1) := by decide +kernel
theorem dX9_undo_12 : decode cX9_undo 12 = .ok (.getfield 179, 3) := by decide +kernel
theorem dX9_undo_15 : decode cX9_undo 15 = .ok (.putfield 53, 3) := by decide +kernel
theorem dX9_undo_18 : decode cX9_undo 18 = .ok (.aload_n 0, 1) := by decide +kernel
theorem dX9_undo_19 : decode cX9_undo 19 = .ok (.aload_n 0, 1) := by decide +kernel
theorem dX9_undo_20 : decode cX9_undo 20 = .ok (.getfield 182, 3) := by decide +kernel
theorem dX9_undo_23 : decode cX9_undo 23 = .ok (.putfield 7, 3) := by decide +kernel
theorem dX9_undo_26 : decode cX9_undo 26 = .ok (.aload_n 0, 1) := by decide +kernel
theorem dX9_undo_27 : decode cX9_undo 27 = .ok (.aload_n 0, 1) := by decide +kernel
theorem dX9_undo_28 : decode cX9_undo 28 = .ok (.getfield 185, 3) := by decide +kernel
theorem dX9_undo_31 : decode cX9_undo 31 = .ok (.putfield 13, 3) := by decide +kernel
theorem dX9_undo_34 : decode cX9_undo 34 = .ok (.aload_n 0, 1) := by decide +kernel
theorem dX9_undo_35 : decode cX9_undo 35 = .ok (.aload_n 0, 1) := by decide +kernel
theorem dX9_undo_36 : decode cX9_undo 36 = .ok (.getfield 188, 3) := by decide +kernel
theorem dX9_undo_39 : decode cX9_undo 39 = .ok (.putfield 16, 3) := by decide +kernel
theorem dX9_undo_42 : decode cX9_undo 42 = .ok (.aload_n 0, 1) := by decide +kernel
theorem dX9_undo_43 : decode cX9_undo 43 = .ok (.aload_n 0, 1) := by decide +kernel
theorem dX9_undo_44 : decode cX9_undo 44 = .ok (.getfield 191, 3) := by decide +kernel
theorem dX9_undo_47 : decode cX9_undo 47 = .ok (.putfield 19, 3) := by decide +kernel
theorem dX9_undo_50 : decode cX9_undo 50 = .ok (.aload_n 0, 1) := by decide +kernel
theorem dX9_undo_51 : decode cX9_undo 51 = .ok (.aload_n 0, 1) := by decide +kernel
theorem dX9_undo_52 : decode cX9_undo 52 = .ok (.getfield 194, 3) := by decide +kernel
theorem dX9_undo_55 : decode cX9_undo 55 = .ok (.putfield 22, 3) := by decide +kernel
theorem dX9_undo_58 : decode cX9_undo 58 = .ok (.aload_n 0, 1) := by decide +kernel
theorem dX9_undo_59 : decode cX9_undo 59 = .ok (.aload_n 0, 1) := by decide +kernel
theorem dX9_undo_60 : decode cX9_undo 60 = .ok (.getfield 197, 3) := by decide +kernel
theorem dX9_undo_63 : decode cX9_undo 63 = .ok (.putfield 145, 3) := by decide +kernel
theorem dX9_undo_66 : decode cX9_undo 66 = .ok (.aload_n 0, 1) := by decide +kernel
theorem dX9_undo_67 : decode cX9_undo 67 = .ok (.aload_n 0, 1) := by decide +kernel
theorem dX9_undo_68 : decode cX9_undo 68 = .ok (.getfield 200, 3) := by decide +kernel
theorem dX9_undo_71 : decode cX9_undo 71 = .ok (.putfield 157, 3) := by decide +kernel
theorem dX9_undo_74 : decode cX9_undo 74 = .ok (.aload_n 0, 1) := by decide +kernel
theorem dX9_undo_75 : decode cX9_undo 75 = .ok (.aload_n 0, 1) := by decide +kernel
theorem dX9_undo_76 : decode cX9_undo 76 = .ok (.getfield 203, 3) := by decide +kernel
theorem dX9_undo_79 : decode cX9_undo 79 = .ok (.putfield 160, 3) := by decide +kernel
theorem dX9_undo_82 : decode cX9_undo 82 = .ok (.iconst 0, 1) := by decide +kernel
theorem dX9_undo_83 : decode cX9_undo 83 = .ok (.istore_n 1, 1) := by decide +kernel
theorem dX9_undo_84 : decode cX9_undo 84 = .ok (.iload_n 1, 1) := by decide +kernel
theorem dX9_undo_85 : decode cX9_undo 85 = .ok (.bipush 6, 2) := by decide +kernel
theorem dX9_undo_87 : decode cX9_undo 87 = .ok (.if_icmp .ge 81, 3) := by decide +kernel
theorem dX9_undo_90 : decode cX9_undo 90 = .ok (.aload_n 0, 1) := by decide +kernel
theorem dX9_undo_91 : decode cX9_undo 91 = .ok (.getfield 25, 3) := by decide +kernel
theorem dX9_undo_94 : decode cX9_undo 94 = .ok (.iload_n 1, 1) := by decide +kernel
theorem dX9_undo_95 : decode cX9_undo 95 = .ok (.aload_n 0, 1) := by decide +kernel
theorem dX9_undo_96 : decode cX9_undo 96 = .ok (.getfield 206, 3) := by decide +kernel
theorem dX9_undo_99 : decode cX9_undo 99 = .ok (.iload_n 1, 1) := by decide +kernel
theorem dX9_undo_100 : decode cX9_undo 100 = .ok (.iaload, 1) := by decide +kernel
theorem dX9_undo_101 : decode cX9_undo 101 = .ok (.iastore, 1) := by decide +kernel
theorem dX9_undo_102 : decode cX9_undo 102 = .ok (.aload_n 0, 1) := by decide +kernel
theorem dX9_undo_103 : decode cX9_undo 103 = .ok (.getfield 29, 3) := by decide +kernel
theorem dX9_undo_106 : decode cX9_undo 106 = .ok (.iload_n 1, 1) := by decide +kernel
theorem dX9_undo_107 : decode cX9_undo 107 = .ok (.aload_n 0, 1) := by decide +kernel
theorem dX9_undo_108 : decode cX9_undo 108 = .ok (.getfield 209, 3) := by decide +kernel
theorem dX9_undo_111 : decode cX9_undo 111 = .ok (.iload_n 1, 1) := by decide +kernel
theorem dX9_undo_112 : decode cX9_undo 112 = .ok (.iaload, 1) := by decide +kernel
theorem dX9_undo_113 : decode cX9_undo 113 = .ok (.iastore, 1) := by decide +kernel
theorem dX9_undo_114 : decode cX9_undo 114 = .ok (.aload_n 0, 1) := by decide +kernel
theorem dX9_undo_115 : decode cX9_undo 115 = .ok (.getfield 32, 3) := by decide +kernel
theorem dX9_undo_118 : decode cX9_undo 118 = .ok (.iload_n 1, 1) := by decide +kernel
theorem dX9_undo_119 : decode cX9_undo 119 = .ok (.aload_n 0, 1) := by decide +kernel
theorem dX9_undo_120 : decode cX9_undo 120 = .ok (.getfield 212, 3) := by decide +kernel
theorem dX9_undo_123 : decode cX9_undo 123 = .ok (.iload_n 1, 1) := by decide +kernel
theorem dX9_undo_124 : decode cX9_undo 124 = .ok (.iaload, 1) := by decide +kernel
theorem dX9_undo_125 : decode cX9_undo 125 = .ok (.iastore, 1) := by decide +kernel
theorem dX9_undo_126 : decode cX9_undo 126 = .ok (.aload_n 0, 1) := by decide +kernel
theorem dX9_undo_127 : decode cX9_undo 127 = .ok (.getfield 35, 3) := by decide +kernel
theorem dX9_undo_130 : decode cX9_undo 130 = .ok (.iload_n 1, 1) := by decide +kernel
theorem dX9_undo_131 : decode cX9_undo 131 = .ok (.aload_n 0, 1) := by decide +kernel
theorem dX9_undo_132 : decode cX9_undo 132 = .ok (.getfield 215, 3) := by decide +kernel
theorem dX9_undo_135 : decode cX9_undo 135 = .ok (.iload_n 1, 1) := by decide +kernel
theorem dX9_undo_136 : decode cX9_undo 136 = .ok (.iaload, 1) := by decide +kernel
theorem dX9_undo_137 : decode cX9_undo 137 = .ok (.iastore, 1) := by decide +kernel
theorem dX9_undo_138 : decode cX9_undo 138 = .ok (.aload_n 0, 1) := by decide +kernel
theorem dX9_undo_139 : decode cX9_undo 139 = .ok (.getfield 38, 3) := by decide +kernel
theorem dX9_undo_142 : decode cX9_undo 142 = .ok (.iload_n 1, 1) := by decide +kernel
theorem dX9_undo_143 : decode cX9_undo 143 = .ok (.aload_n 0, 1) := by decide +kernel
theorem dX9_undo_144 : decode cX9_undo 144 = .ok (.getfield 218, 3) := by decide +kernel
theorem dX9_undo_147 : decode cX9_undo 147 = .ok (.iload_n 1, 1) := by decide +kernel
theorem dX9_undo_148 : decode cX9_undo 148 = .ok (.iaload, 1) := by decide +kernel
theorem dX9_undo_149 : decode cX9_undo 149 = .ok (.iastore, 1) := by decide +kernel
theorem dX9_undo_150 : decode cX9_undo 150 = .ok (.aload_n 0, 1) := by decide +kernel
theorem dX9_undo_151 : decode cX9_undo 151 = .ok (.getfield 41, 3) := by decide +kernel
theorem dX9_undo_154 : decode cX9_undo 154 = .ok (.iload_n 1, 1) := by decide +kernel
theorem dX9_undo_155 : decode cX9_undo 155 = .ok (.aload_n 0, 1) := by decide +kernel
theorem dX9_undo_156 : decode cX9_undo 156 = .ok (.getfield 221, 3) := by decide +kernel
theorem dX9_undo_159 : decode cX9_undo 159 = .ok (.iload_n 1, 1) := by decide +kernel
theorem dX9_undo_160 : decode cX9_undo 160 = .ok (.iaload, 1) := by decide +kernel
theorem dX9_undo_161 : decode cX9_undo 161 = .ok (.iastore, 1) := by decide +kernel
theorem dX9_undo_162 : decode cX9_undo 162 = .ok (.iinc 1 1, 3) := by decide +kernel
theorem dX9_undo_165 : decode cX9_undo 165 = .ok (.goto (-81), 3) := by decide +kernel
theorem dX9_undo_168 : decode cX9_undo 168 = .ok (.iconst 0, 1) := by decide +kernel
theorem dX9_undo_169 : decode cX9_undo 169 = .ok (.istore_n 1, 1) := by decide +kernel
theorem dX9_undo_170 : decode cX9_undo 170 = .ok (.iload_n 1, 1) := by decide +kernel
theorem dX9_undo_171 : decode cX9_undo 171 = .ok (.bipush 24, 2) := by decide +kernel
theorem dX9_undo_173 : decode cX9_undo 173 = .ok (.if_icmp .ge 21, 3) := by decide +kernel
theorem dX9_undo_176 : decode cX9_undo 176 = .ok (.aload_n 0, 1) := by decide +kernel
theorem dX9_undo_177 : decode cX9_undo 177 = .ok (.getfield 44, 3) := by decide +kernel
theorem dX9_undo_180 : decode cX9_undo 180 = .ok (.iload_n 1, 1) := by decide +kernel
theorem dX9_undo_181 : decode cX9_undo 181 = .ok (.aload_n 0, 1) := by decide +kernel
theorem dX9_undo_182 : decode cX9_undo 182 = .ok (.getfield 224, 3) := by decide +kernel
theorem dX9_undo_185 : decode cX9_undo 185 = .ok (.iload_n 1, 1) := by decide +kernel
theorem dX9_undo_186 : decode cX9_undo 186 = .ok (.iaload, 1) := by decide +kernel
theorem dX9_undo_187 : decode cX9_undo 187 = .ok (.iastore, 1) := by decide +kernel
theorem dX9_undo_188 : decode cX9_undo 188 = .ok (.iinc 1 1, 3) := by decide +kernel
theorem dX9_undo_191 : decode cX9_undo 191 = .ok (.goto (-21), 3) := by decide +kernel
theorem dX9_undo_194 : decode cX9_undo 194 = .ok (.iconst 0, 1) := by decide +kernel
theorem dX9_undo_195 : decode cX9_undo 195 = .ok (.istore_n 1, 1) := by decide +kernel
theorem dX9_undo_196 : decode cX9_undo 196 = .ok (.iload_n 1, 1) := by decide +kernel
theorem dX9_undo_197 : decode cX9_undo 197 = .ok (.iconst 5, 1) := by decide +kernel
theorem dX9_undo_198 : decode cX9_undo 198 = .ok (.if_icmp .ge 45, 3) := by decide +kernel
theorem dX9_undo_201 : decode cX9_undo 201 = .ok (.aload_n 0, 1) := by decide +kernel
theorem dX9_undo_202 : decode cX9_undo 202 = .ok (.getfield 148, 3) := by decide +kernel
theorem dX9_undo_205 : decode cX9_undo 205 = .ok (.iload_n 1, 1) := by decide +kernel
theorem dX9_undo_206 : decode cX9_undo 206 = .ok (.aload_n 0, 1) := by decide +kernel
theorem dX9_undo_207 : decode cX9_undo 207 = .ok (.getfield 230, 3) := by decide +kernel
theorem dX9_undo_210 : decode cX9_undo 210 = .ok (.iload_n 1, 1) := by decide +kernel
theorem dX9_undo_211 : decode cX9_undo 211 = .ok (.iaload, 1) := by decide +kernel
theorem dX9_undo_212 : decode cX9_undo 212 = .ok (.iastore, 1) := by decide +kernel
theorem dX9_undo_213 : decode cX9_undo 213 = .ok (.aload_n 0, 1) := by decide +kernel
theorem dX9_undo_214 : decode cX9_undo 214 = .ok (.getfield 151, 3) := by decide +kernel
theorem dX9_undo_217 : decode cX9_undo 217 = .ok (.iload_n 1, 1) := by decide +kernel
theorem dX9_undo_218 : decode cX9_undo 218 = .ok (.aload_n 0, 1) := by decide +kernel
theorem dX9_undo_219 : decode cX9_undo 219 = .ok (.getfield 233, 3) := by decide +kernel
theorem dX9_undo_222 : decode cX9_undo 222 = .ok (.iload_n 1, 1) := by decide +kernel
theorem dX9_undo_223 : decode cX9_undo 223 = .ok (.iaload, 1) := by decide +kernel
theorem dX9_undo_224 : decode cX9_undo 224 = .ok (.iastore, 1) := by decide +kernel
theorem dX9_undo_225 : decode cX9_undo 225 = .ok (.aload_n 0, 1) := by decide +kernel
theorem dX9_undo_226 : decode cX9_undo 226 = .ok (.getfield 154, 3) := by decide +kernel
theorem dX9_undo_229 : decode cX9_undo 229 = .ok (.iload_n 1, 1) := by decide +kernel
theorem dX9_undo_230 : decode cX9_undo 230 = .ok (.aload_n 0, 1) := by decide +kernel
theorem dX9_undo_231 : decode cX9_undo 231 = .ok (.getfield 236, 3) := by decide +kernel
theorem dX9_undo_234 : decode cX9_undo 234 = .ok (.iload_n 1, 1) := by decide +kernel
theorem dX9_undo_235 : decode cX9_undo 235 = .ok (.iaload, 1) := by decide +kernel
theorem dX9_undo_236 : decode cX9_undo 236 = .ok (.iastore, 1) := by decide +kernel
theorem dX9_undo_237 : decode cX9_undo 237 = .ok (.iinc 1 1, 3) := by decide +kernel
theorem dX9_undo_240 : decode cX9_undo 240 = .ok (.goto (-44), 3) := by decide +kernel
theorem dX9_undo_243 : decode cX9_undo 243 = .ok (.iconst 0, 1) := by decide +kernel
theorem dX9_undo_244 : decode cX9_undo 244 = .ok (.istore_n 1, 1) := by decide +kernel
theorem dX9_undo_245 : decode cX9_undo 245 = .ok (.iload_n 1, 1) := by decide +kernel
theorem dX9_undo_246 : decode cX9_undo 246 = .ok (.bipush 10, 2) := by decide +kernel
theorem dX9_undo_248 : decode cX9_undo 248 = .ok (.if_icmp .ge 45, 3) := by decide +kernel
theorem dX9_undo_251 : decode cX9_undo 251 = .ok (.aload_n 0, 1) := by decide +kernel
theorem dX9_undo_252 : decode cX9_undo 252 = .ok (.getfield 47, 3) := by decide +kernel
theorem dX9_undo_255 : decode cX9_undo 255 = .ok (.iload_n 1, 1) := by decide +kernel
theorem dX9_undo_256 : decode cX9_undo 256 = .ok (.aload_n 0, 1) := by decide +kernel
theorem dX9_undo_257 : decode cX9_undo 257 = .ok (.getfield 227, 3) := by decide +kernel
theorem dX9_undo_260 : decode cX9_undo 260 = .ok (.iload_n 1, 1) := by decide +kernel
theorem dX9_undo_261 : decode cX9_undo 261 = .ok (.iaload, 1) := by decide +kernel
theorem dX9_undo_262 : decode cX9_undo 262 = .ok (.iastore, 1) := by decide +kernel
theorem dX9_undo_263 : decode cX9_undo 263 = .ok (.aload_n 0, 1) := by decide +kernel
theorem dX9_undo_264 : decode cX9_undo 264 = .ok (.getfield 163, 3) := by decide +kernel
theorem dX9_undo_267 : decode cX9_undo 267 = .ok (.iload_n 1, 1) := by decide +kernel
theorem dX9_undo_268 : decode cX9_undo 268 = .ok (.aload_n 0, 1) := by decide +kernel
theorem dX9_undo_269 : decode cX9_undo 269 = .ok (.getfield 239, 3) := by decide +kernel
theorem dX9_undo_272 : decode cX9_undo 272 = .ok (.iload_n 1, 1) := by decide +kernel
theorem dX9_undo_273 : decode cX9_undo 273 = .ok (.iaload, 1) := by decide +kernel
theorem dX9_undo_274 : decode cX9_undo 274 = .ok (.iastore, 1) := by decide +kernel
theorem dX9_undo_275 : decode cX9_undo 275 = .ok (.aload_n 0, 1) := by decide +kernel
theorem dX9_undo_276 : decode cX9_undo 276 = .ok (.getfield 166, 3) := by decide +kernel
theorem dX9_undo_279 : decode cX9_undo 279 = .ok (.iload_n 1, 1) := by decide +kernel
theorem dX9_undo_280 : decode cX9_undo 280 = .ok (.aload_n 0, 1) := by decide +kernel
theorem dX9_undo_281 : decode cX9_undo 281 = .ok (.getfield 242, 3) := by decide +kernel
theorem dX9_undo_284 : decode cX9_undo 284 = .ok (.iload_n 1, 1) := by decide +kernel
theorem dX9_undo_285 : decode cX9_undo 285 = .ok (.iaload, 1) := by decide +kernel
theorem dX9_undo_286 : decode cX9_undo 286 = .ok (.iastore, 1) := by decide +kernel
theorem dX9_undo_287 : decode cX9_undo 287 = .ok (.iinc 1 1, 3) := by decide +kernel
theorem dX9_undo_290 : decode cX9_undo 290 = .ok (.goto (-45), 3) := by decide +kernel
theorem dX9_undo_293 : decode cX9_undo 293 = .ok (.iconst 0, 1) := by decide +kernel
theorem dX9_undo_294 : decode cX9_undo 294 = .ok (.istore_n 1, 1) := by decide +kernel
theorem dX9_undo_295 : decode cX9_undo 295 = .ok (.iload_n 1, 1) := by decide +kernel
theorem dX9_undo_296 : decode cX9_undo 296 = .ok (.bipush 8, 2) := by decide +kernel
theorem dX9_undo_298 : decode cX9_undo 298 = .ok (.if_icmp .ge 33, 3) := by decide +kernel
theorem dX9_undo_301 : decode cX9_undo 301 = .ok (.aload_n 0, 1) := by decide +kernel
theorem dX9_undo_302 : decode cX9_undo 302 = .ok (.getfield 169, 3) := by decide +kernel
theorem dX9_undo_305 : decode cX9_undo 305 = .ok (.iload_n 1, 1) := by decide +kernel
theorem dX9_undo_306 : decode cX9_undo 306 = .ok (.aload_n 0, 1) := by decide +kernel
theorem dX9_undo_307 : decode cX9_undo 307 = .ok (.getfield 245, 3) := by decide +kernel
theorem dX9_undo_310 : decode cX9_undo 310 = .ok (.iload_n 1, 1) := by decide +kernel
theorem dX9_undo_311 : decode cX9_undo 311 = .ok (.iaload, 1) := by decide +kernel
theorem dX9_undo_312 : decode cX9_undo 312 = .ok (.iastore, 1) := by decide +kernel
theorem dX9_undo_313 : decode cX9_undo 313 = .ok (.aload_n 0, 1) := by decide +kernel
theorem dX9_undo_314 : decode cX9_undo 314 = .ok (.getfield 172, 3) := by decide +kernel
theorem dX9_undo_317 : decode cX9_undo 317 = .ok (.iload_n 1, 1) := by decide +kernel
theorem dX9_undo_318 : decode cX9_undo 318 = .ok (.aload_n 0, 1) := by decide +kernel
theorem dX9_undo_319 : decode cX9_undo 319 = .ok (.getfield 248, 3) := by decide +kernel
theorem dX9_undo_322 : decode cX9_undo 322 = .ok (.iload_n 1, 1) := by decide +kernel
theorem dX9_undo_323 : decode cX9_undo 323 = .ok (.iaload, 1) := by decide +kernel
theorem dX9_undo_324 : decode cX9_undo 324 = .ok (.iastore, 1) := by decide +kernel
theorem dX9_undo_325 : decode cX9_undo 325 = .ok (.iinc 1 1, 3) := by decide +kernel
theorem dX9_undo_328 : decode cX9_undo 328 = .ok (.goto (-33), 3) := by decide +kernel
theorem dX9_undo_331 : decode cX9_undo 331 = .ok (.aload_n 0, 1) := by decide +kernel
theorem dX9_undo_332 : decode cX9_undo 332 = .ok (.getfield 7, 3) := by decide +kernel
theorem dX9_undo_335 : decode cX9_undo 335 = .ok (.ireturn, 1) := by decide +kernel
theorem dX9_body_0 : decode cX9_body 0 = .ok (.aload_n 0, 1) := by decide +kernel
theorem dX9_body_1 : decode cX9_body 1 = .ok (.getfield 251, 3) := by decide +kernel
theorem dX9_body_4 : decode cX9_body 4 = .ok (.bipush 20, 2) := by decide +kernel
theorem dX9_body_6 : decode cX9_body 6 = .ok (.if_icmp .ge 13, 3) := by decide +kernel
theorem dX9_body_9 : decode cX9_body 9 = .ok (.aload_n 0, 1) := by decide +kernel
theorem dX9_body_10 : decode cX9_body 10 = .ok (.getfield 254, 3) := by decide +kernel
theorem dX9_body_13 : decode cX9_body 13 = .ok (.aload_n 0, 1) := by decide +kernel
theorem dX9_body_14 : decode cX9_body 14 = .ok (.getfield 251, 3) := by decide +kernel
theorem dX9_body_17 : decode cX9_body 17 = .ok (.iload_n 1, 1) := by decide +kernel
theorem dX9_body_18 : decode cX9_body 18 = .ok (.iastore, 1) := by decide +kernel
theorem dX9_body_19 : decode cX9_body 19 = .ok (.aload_n 0, 1) := by decide +kernel
theorem dX9_body_20 : decode cX9_body 20 = .ok (.dup, 1) := by decide +kernel
theorem dX9_body_21 : decode cX9_body 21 = .ok (.getfield 251, 3) := by decide +kernel
theorem dX9_body_24 : decode cX9_body 24 = .ok (.iconst 1, 1) := by decide +kernel
theorem dX9_body_25 : decode cX9_body 25 = .ok (.iadd, 1) := by decide +kernel
theorem dX9_body_26 : decode cX9_body 26 = .ok (.putfield 251, 3) := by decide +kernel
theorem dX9_body_29 : decode cX9_body 29 = .ok (.return_, 1) := by decide +kernel
set_option maxRecDepth 20000 in
theorem ggX9_masterClimbs_X9_body : GoodIn wsX9_masterClimbs wsX9_body := goodIn_r _ [5, 6, 7, 8, 9, 10, 11, 12, 13, 14, 15, 16, 17, 18, 19, 20, 21, 22, 23, 24, 25, 26, 27, 28, 29, 30, 31, 32, 33, 34, 35, 36, 37, 38, 39, 40, 41, 42, 43, 44, 45, 46, 47, 48, 49, 50, 51, 52, 53, 54, 55, 56, 57, 58, 59, 60, 61, 62, 63, 64, 65, 66, 67, 68, 69, 70, 71, 72, 73, 74, 75, 76, 77, 78, 79, 80, 81, 82, 83, 84, 85, 86, 87, 88, 89, 90, 91, 92] (by decide +kernel) (by decide +kernel)
set_option maxRecDepth 20000 in
theorem gX9_masterClimbs_X9_body : GoodIn wsX9_masterClimbs (wsV RX9 450 RX9 yX9_body wsX9_body) := goodIn_app (goodIn_of _ (by decide +kernel)) ggX9_masterClimbs_X9_body
theorem dX9_masterClimbs_0 : decode cX9_masterClimbs 0 = .ok (.aload_n 0, 1) := by decide +kernel
theorem dX9_masterClimbs_1 : decode cX9_masterClimbs 1 = .ok (.bipush 10, 2) := by decide +kernel
theorem dX9_masterClimbs_3 : decode cX9_masterClimbs 3 = .ok (.invokevirtual 450, 3) := by decide +kernel
theorem dX9_masterClimbs_6 : decode cX9_masterClimbs 6 = .ok (.iload_n 2, 1) := by decide +kernel
theorem dX9_masterClimbs_7 : decode cX9_masterClimbs 7 = .ok (.iload_n 1, 1) := by decide +kernel
theorem dX9_masterClimbs_8 : decode cX9_masterClimbs 8 = .ok (.iadd, 1) := by decide +kernel
theorem dX9_masterClimbs_9 : decode cX9_masterClimbs 9 = .ok (.ireturn, 1) := by decide +kernel
set_option maxRecDepth 20000 in
theorem ggX9_climbsAct_X9_body : GoodIn wsX9_climbsAct wsX9_body := goodIn_r _ [7, 8, 9, 14, 15, 16, 17, 18, 19, 20, 21, 22, 23, 24, 25, 26, 27, 28, 29, 30, 31, 32, 33, 34, 35, 36, 37, 38, 39, 40, 41, 42, 43, 44, 45, 46, 47, 48, 49, 50, 51, 52, 53, 54, 55, 56, 57, 58, 59, 60, 61, 62, 63, 64, 65, 66, 67, 68, 69, 70, 71, 72, 73, 74, 75, 76, 77, 78, 79, 80, 81, 82, 83, 84, 85, 86, 87, 88, 89, 90, 91, 92, 93, 94, 95, 96, 97, 98] (by decide +kernel) (by decide +kernel)
set_option maxRecDepth 20000 in
theorem gX9_climbsAct_X9_body : GoodIn wsX9_climbsAct (wsV RX9 450 RX9 yX9_body wsX9_body) := goodIn_app (goodIn_of _ (by decide +kernel)) ggX9_climbsAct_X9_body
set_option maxRecDepth 20000 in
theorem ggX9_climbsAct_X9_masterClimbs : GoodIn wsX9_climbsAct wsX9_masterClimbs := goodIn_r _ [13, 3, 4, 5, 6, 7, 8, 9, 14, 15, 16, 17, 18, 19, 20, 21, 22, 23, 24, 25, 26, 27, 28, 29, 30, 31, 32, 33, 34, 35, 36, 37, 38, 39, 40, 41, 42, 43, 44, 45, 46, 47, 48, 49, 50, 51, 52, 53, 54, 55, 56, 57, 58, 59, 60, 61, 62, 63, 64, 65, 66, 67, 68, 69, 70, 71, 72, 73, 74, 75, 76, 77, 78, 79, 80, 81, 82, 83, 84, 85, 86, 87, 88, 89, 90, 91, 92, 93, 94, 95, 96, 97, 98] (by decide +kernel) (by decide +kernel)
set_option maxRecDepth 20000 in
theorem gX9_climbsAct_X9_masterClimbs : GoodIn wsX9_climbsAct (wsV RX9 453 RX9 yX9_masterClimbs wsX9_masterClimbs) := goodIn_app (goodIn_of _ (by decide +kernel)) ggX9_climbsAct_X9_masterClimbs
theorem dX9_climbsAct_0 : decode cX9_climbsAct 0 = .ok (.aload_n 0, 1) := by decide +kernel
theorem dX9_climbsAct_1 : decode cX9_climbsAct 1 = .ok (.getfield 25, 3) := by decide +kernel
theorem dX9_climbsAct_4 : decode cX9_climbsAct 4 = .ok (.iload_n 1, 1) := by decide +kernel
theorem dX9_climbsAct_5 : decode cX9_climbsAct 5 = .ok (.iaload, 1) := by decide +kernel
theorem dX9_climbsAct_6 : decode cX9_climbsAct 6 = .ok (.tableswitch 83 2 6 #[34, 83, 49, 34, 63], 34) := by decide +kernel
theorem dX9_climbsAct_40 : decode cX9_climbsAct 40 = .ok (.aload_n 0, 1) := by decide +kernel
theorem dX9_climbsAct_41 : decode cX9_climbsAct 41 = .ok (.bipush 30, 2) := by decide +kernel
theorem dX9_climbsAct_43 : decode cX9_climbsAct 43 = .ok (.invokevirtual 450, 3) := by decide +kernel
theorem dX9_climbsAct_46 : decode cX9_climbsAct 46 = .ok (.aload_n 0, 1) := by decide +kernel
theorem dX9_climbsAct_47 : decode cX9_climbsAct 47 = .ok (.iload_n 1, 1) := by decide +kernel
theorem dX9_climbsAct_48 : decode cX9_climbsAct 48 = .ok (.iload_n 2, 1) := by decide +kernel
theorem dX9_climbsAct_49 : decode cX9_climbsAct 49 = .ok (.iconst 3, 1) := by decide +kernel
theorem dX9_climbsAct_50 : decode cX9_climbsAct 50 = .ok (.imul, 1) := by decide +kernel
theorem dX9_climbsAct_51 : decode cX9_climbsAct 51 = .ok (.invokevirtual 453, 3) := by decide +kernel
theorem dX9_climbsAct_54 : decode cX9_climbsAct 54 = .ok (.ireturn, 1) := by decide +kernel
theorem dX9_climbsAct_55 : decode cX9_climbsAct 55 = .ok (.aload_n 0, 1) := by decide +kernel
theorem dX9_climbsAct_56 : decode cX9_climbsAct 56 = .ok (.bipush 50, 2) := by decide +kernel
theorem dX9_climbsAct_58 : decode cX9_climbsAct 58 = .ok (.invokevirtual 450, 3) := by decide +kernel
theorem dX9_climbsAct_61 : decode cX9_climbsAct 61 = .ok (.aload_n 0, 1) := by decide +kernel
theorem dX9_climbsAct_62 : decode cX9_climbsAct 62 = .ok (.iload_n 1, 1) := by decide +kernel
theorem dX9_climbsAct_63 : decode cX9_climbsAct 63 = .ok (.iload_n 2, 1) := by decide +kernel
theorem dX9_climbsAct_64 : decode cX9_climbsAct 64 = .ok (.invokevirtual 453, 3) := by decide +kernel
theorem dX9_climbsAct_67 : decode cX9_climbsAct 67 = .ok (.ineg, 1) := by decide +kernel
theorem dX9_climbsAct_68 : decode cX9_climbsAct 68 = .ok (.ireturn, 1) := by decide +kernel
theorem dX9_climbsAct_69 : decode cX9_climbsAct 69 = .ok (.aload_n 0, 1) := by decide +kernel
theorem dX9_climbsAct_70 : decode cX9_climbsAct 70 = .ok (.bipush 71, 2) := by decide +kernel
theorem dX9_climbsAct_72 : decode cX9_climbsAct 72 = .ok (.invokevirtual 450, 3) := by decide +kernel
theorem dX9_climbsAct_75 : decode cX9_climbsAct 75 = .ok (.aload_n 0, 1) := by decide +kernel
theorem dX9_climbsAct_76 : decode cX9_climbsAct 76 = .ok (.iload_n 1, 1) := by decide +kernel
theorem dX9_climbsAct_77 : decode cX9_climbsAct 77 = .ok (.iload_n 2, 1) := by decide +kernel
theorem dX9_climbsAct_78 : decode cX9_climbsAct 78 = .ok (.invokevirtual 453, 3) := by decide +kernel
theorem dX9_climbsAct_81 : decode cX9_climbsAct 81 = .ok (.aload_n 0, 1) := by decide +kernel
theorem dX9_climbsAct_82 : decode cX9_climbsAct 82 = .ok (.getfield 29, 3) := by decide +kernel
theorem dX9_climbsAct_85 : decode cX9_climbsAct 85 = .ok (.iload_n 1, 1) := by decide +kernel
theorem dX9_climbsAct_86 : decode cX9_climbsAct 86 = .ok (.iaload, 1) := by decide +kernel
theorem dX9_climbsAct_87 : decode cX9_climbsAct 87 = .ok (.ixor, 1) := by decide +kernel
theorem dX9_climbsAct_88 : decode cX9_climbsAct 88 = .ok (.ireturn, 1) := by decide +kernel
theorem dX9_climbsAct_89 : decode cX9_climbsAct 89 = .ok (.aload_n 0, 1) := by decide +kernel
theorem dX9_climbsAct_90 : decode cX9_climbsAct 90 = .ok (.iload_n 1, 1) := by decide +kernel
theorem dX9_climbsAct_91 : decode cX9_climbsAct 91 = .ok (.iload_n 2, 1) := by decide +kernel
theorem dX9_climbsAct_92 : decode cX9_climbsAct 92 = .ok (.invokevirtual 453, 3) := by decide +kernel
theorem dX9_climbsAct_95 : decode cX9_climbsAct 95 = .ok (.ireturn, 1) := by decide +kernel
set_option maxRecDepth 20000 in
theorem ggX9_masterYawns_X9_body : GoodIn wsX9_masterYawns wsX9_body := goodIn_r _ [6, 7, 8, 18, 19, 20, 21, 22, 23, 24, 25, 26, 27, 28, 29, 30, 31, 32, 33, 34, 35, 36, 37, 38, 39, 40, 41, 42, 43, 44, 45, 46, 47, 48, 49, 50, 51, 52, 53, 54, 55, 56, 57, 58, 59, 60, 61, 62, 63, 64, 65, 66, 67, 68, 69, 70, 71, 72, 73, 74, 75, 76, 77, 78, 79, 80, 81, 82, 83, 84, 85, 86, 87, 88, 89, 90, 91, 92, 93, 94, 95, 96, 97, 98, 99, 100, 101, 102] (by decide +kernel) (by decide +kernel)
set_option maxRecDepth 20000 in
theorem gX9_masterYawns_X9_body : GoodIn wsX9_masterYawns (wsV RX9 450 RX9 yX9_body wsX9_body) := goodIn_app (goodIn_of _ (by decide +kernel)) ggX9_masterYawns_X9_body
set_option maxRecDepth 20000 in
theorem ggX9_masterYawns_X9_climbsAct : GoodIn wsX9_masterYawns wsX9_climbsAct := goodIn_r _ [12, 13, 1, 2, 3, 4, 5, 6, 7, 8, 14, 15, 16, 17, 18, 19, 20, 21, 22, 23, 24, 25, 26, 27, 28, 29, 30, 31, 32, 33, 34, 35, 36, 37, 38, 39, 40, 41, 42, 43, 44, 45, 46, 47, 48, 49, 50, 51, 52, 53, 54, 55, 56, 57, 58, 59, 60, 61, 62, 63, 64, 65, 66, 67, 68, 69, 70, 71, 72, 73, 74, 75, 76, 77, 78, 79, 80, 81, 82, 83, 84, 85, 86, 87, 88, 89, 90, 91, 92, 93, 94, 95, 96, 97, 98, 99, 100, 101, 102] (by decide +kernel) (by decide +kernel)
set_option maxRecDepth 20000 in
theorem gX9_masterYawns_X9_climbsAct : GoodIn wsX9_masterYawns (wsV RX9 456 RX9 yX9_climbsAct wsX9_climbsAct) := goodIn_app (goodIn_of _ (by decide +kernel)) ggX9_masterYawns_X9_climbsAct
theorem dX9_masterYawns_0 : decode cX9_masterYawns 0 = .ok (.aload_n 0, 1) := by decide +kernel
theorem dX9_masterYawns_1 : decode cX9_masterYawns 1 = .ok (.bipush 11, 2) := by decide +kernel
theorem dX9_masterYawns_3 : decode cX9_masterYawns 3 = .ok (.invokevirtual 450, 3) := by decide +kernel
theorem dX9_masterYawns_6 : decode cX9_masterYawns 6 = .ok (.aload_n 0, 1) := by decide +kernel
theorem dX9_masterYawns_7 : decode cX9_masterYawns 7 = .ok (.iload_n 1, 1) := by decide +kernel
theorem dX9_masterYawns_8 : decode cX9_masterYawns 8 = .ok (.iload_n 2, 1) := by decide +kernel
theorem dX9_masterYawns_9 : decode cX9_masterYawns 9 = .ok (.invokevirtual 456, 3) := by decide +kernel
theorem dX9_masterYawns_12 : decode cX9_masterYawns 12 = .ok (.aload_n 0, 1) := by decide +kernel
theorem dX9_masterYawns_13 : decode cX9_masterYawns 13 = .ok (.getfield 29, 3) := by decide +kernel
theorem dX9_masterYawns_16 : decode cX9_masterYawns 16 = .ok (.iload_n 1, 1) := by decide +kernel
theorem dX9_masterYawns_17 : decode cX9_masterYawns 17 = .ok (.iaload, 1) := by decide +kernel
theorem dX9_masterYawns_18 : decode cX9_masterYawns 18 = .ok (.isub, 1) := by decide +kernel
theorem dX9_masterYawns_19 : decode cX9_masterYawns 19 = .ok (.ireturn, 1) := by decide +kernel
set_option maxRecDepth 20000 in
theorem ggX9_dukeYawns_X9_body : GoodIn wsX9_dukeYawns wsX9_body := goodIn_r _ [5, 6, 7, 22, 23, 24, 25, 26, 27, 28, 29, 30, 31, 32, 33, 34, 35, 36, 37, 38, 39, 40, 41, 42, 43, 44, 45, 46, 47, 48, 49, 50, 51, 52, 53, 54, 55, 56, 57, 58, 59, 60, 61, 62, 63, 64, 65, 66, 67, 68, 69, 70, 71, 72, 73, 74, 75, 76, 77, 78, 79, 80, 81, 82, 83, 84, 85, 86, 87, 88, 89, 90, 91, 92, 93, 94, 95, 96, 97, 98, 99, 100, 101, 102, 103, 104, 105, 106] (by decide +kernel) (by decide +kernel)
set_option maxRecDepth 20000 in
theorem gX9_dukeYawns_X9_body : GoodIn wsX9_dukeYawns (wsV RX9 450 RX9 yX9_body wsX9_body) := goodIn_app (goodIn_of _ (by decide +kernel)) ggX9_dukeYawns_X9_body
set_option maxRecDepth 20000 in
theorem ggX9_dukeYawns_X9_masterYawns : GoodIn wsX9_dukeYawns wsX9_masterYawns := goodIn_r _ [11, 12, 1, 2, 3, 4, 5, 6, 7, 13, 14, 15, 16, 17, 18, 19, 20, 21, 22, 23, 24, 25, 26, 27, 28, 29, 30, 31, 32, 33, 34, 35, 36, 37, 38, 39, 40, 41, 42, 43, 44, 45, 46, 47, 48, 49, 50, 51, 52, 53, 54, 55, 56, 57, 58, 59, 60, 61, 62, 63, 64, 65, 66, 67, 68, 69, 70, 71, 72, 73, 74, 75, 76, 77, 78, 79, 80, 81, 82, 83, 84, 85, 86, 87, 88, 89, 90, 91, 92, 93, 94, 95, 96, 97, 98, 99, 100, 101, 102, 103, 104, 105, 106] (by decide +kernel) (by decide +kernel)
set_option maxRecDepth 20000 in
theorem gX9_dukeYawns_X9_masterYawns : GoodIn wsX9_dukeYawns (wsV RX9 459 RX9 yX9_masterYawns wsX9_masterYawns) := goodIn_app (goodIn_of _ (by decide +kernel)) ggX9_dukeYawns_X9_masterYawns
theorem dX9_dukeYawns_0 : decode cX9_dukeYawns 0 = .ok (.aload_n 0, 1) := by decide +kernel
theorem dX9_dukeYawns_1 : decode cX9_dukeYawns 1 = .ok (.bipush 20, 2) := by decide +kernel
theorem dX9_dukeYawns_3 : decode cX9_dukeYawns 3 = .ok (.invokevirtual 450, 3) := by decide +kernel
theorem dX9_dukeYawns_6 : decode cX9_dukeYawns 6 = .ok (.aload_n 0, 1) := by decide +kernel
theorem dX9_dukeYawns_7 : decode cX9_dukeYawns 7 = .ok (.iload_n 1, 1) := by decide +kernel
theorem dX9_dukeYawns_8 : decode cX9_dukeYawns 8 = .ok (.iload_n 2, 1) := by decide +kernel
theorem dX9_dukeYawns_9 : decode cX9_dukeYawns 9 = .ok (.invokevirtual 459, 3) := by decide +kernel
theorem dX9_dukeYawns_12 : decode cX9_dukeYawns 12 = .ok (.bipush 6, 2) := by decide +kernel
theorem dX9_dukeYawns_14 : decode cX9_dukeYawns 14 = .ok (.ixor, 1) := by decide +kernel
theorem dX9_dukeYawns_15 : decode cX9_dukeYawns 15 = .ok (.ireturn, 1) := by decide +kernel
set_option maxRecDepth 20000 in
theorem ggX9_yawnsAct_X9_dukeYawns : GoodIn wsX9_yawnsAct wsX9_dukeYawns := goodIn_r _ [6, 7, 8, 9, 5, 10, 11, 12, 13, 14, 15, 16, 17, 18, 19, 20, 21, 1, 22, 23, 24, 25, 26, 27, 28, 29, 30, 31, 32, 33, 34, 35, 36, 37, 38, 39, 40, 41, 42, 43, 44, 45, 46, 47, 48, 49, 50, 51, 52, 53, 54, 55, 56, 57, 58, 59, 60, 61, 62, 63, 64, 65, 66, 67, 68, 69, 70, 71, 72, 73, 74, 75, 76, 77, 78, 79, 80, 81, 82, 83, 84, 85, 86, 87, 88, 89, 90, 91, 92, 93, 94, 95, 96, 97, 98, 99, 100, 101, 102, 103, 104, 105, 106, 107, 108, 109, 110] (by decide +kernel) (by decide +kernel)
set_option maxRecDepth 20000 in
theorem gX9_yawnsAct_X9_dukeYawns : GoodIn wsX9_yawnsAct (wsV RX9 462 RX9 yX9_dukeYawns wsX9_dukeYawns) := goodIn_app (goodIn_of _ (by decide +kernel)) ggX9_yawnsAct_X9_dukeYawns
set_option maxRecDepth 20000 in
theorem ggX9_yawnsAct_X9_body : GoodIn wsX9_yawnsAct wsX9_body := goodIn_r _ [10, 11, 12, 26, 27, 28, 29, 30, 31, 32, 33, 34, 35, 36, 37, 38, 39, 40, 41, 42, 43, 44, 45, 46, 47, 48, 49, 50, 51, 52, 53, 54, 55, 56, 57, 58, 59, 60, 61, 62, 63, 64, 65, 66, 67, 68, 69, 70, 71, 72, 73, 74, 75, 76, 77, 78, 79, 80, 81, 82, 83, 84, 85, 86, 87, 88, 89, 90, 91, 92, 93, 94, 95, 96, 97, 98, 99, 100, 101, 102, 103, 104, 105, 106, 107, 108, 109, 110] (by decide +kernel) (by decide +kernel)
set_option maxRecDepth 20000 in
theorem gX9_yawnsAct_X9_body : GoodIn wsX9_yawnsAct (wsV RX9 450 RX9 yX9_body wsX9_body) := goodIn_app (goodIn_of _ (by decide +kernel)) ggX9_yawnsAct_X9_body
set_option maxRecDepth 20000 in
theorem ggX9_yawnsAct_X9_masterYawns : GoodIn wsX9_yawnsAct wsX9_masterYawns := goodIn_r _ [16, 17, 7, 8, 9, 5, 10, 11, 12, 18, 19, 20, 21, 1, 22, 23, 24, 25, 26, 27, 28, 29, 30, 31, 32, 33, 34, 35, 36, 37, 38, 39, 40, 41, 42, 43, 44, 45, 46, 47, 48, 49, 50, 51, 52, 53, 54, 55, 56, 57, 58, 59, 60, 61, 62, 63, 64, 65, 66, 67, 68, 69, 70, 71, 72, 73, 74, 75, 76, 77, 78, 79, 80, 81, 82, 83, 84, 85, 86, 87, 88, 89, 90, 91, 92, 93, 94, 95, 96, 97, 98, 99, 100, 101, 102, 103, 104, 105, 106, 107, 108, 109, 110] (by decide +kernel) (by decide +kernel)
set_option maxRecDepth 20000 in
theorem gX9_yawnsAct_X9_masterYawns : GoodIn wsX9_yawnsAct (wsV RX9 459 RX9 yX9_masterYawns wsX9_masterYawns) := goodIn_app (goodIn_of _ (by decide +kernel)) ggX9_yawnsAct_X9_masterYawns
set_option maxRecDepth 20000 in
theorem ggX9_yawnsAct_X9_masterClimbs : GoodIn wsX9_yawnsAct wsX9_masterClimbs := goodIn_r _ [25, 7, 8, 9, 5, 10, 11, 12, 26, 27, 28, 29, 30, 31, 32, 33, 34, 35, 36, 37, 38, 39, 40, 41, 42, 43, 44, 45, 46, 47, 48, 49, 50, 51, 52, 53, 54, 55, 56, 57, 58, 59, 60, 61, 62, 63, 64, 65, 66, 67, 68, 69, 70, 71, 72, 73, 74, 75, 76, 77, 78, 79, 80, 81, 82, 83, 84, 85, 86, 87, 88, 89, 90, 91, 92, 93, 94, 95, 96, 97, 98, 99, 100, 101, 102, 103, 104, 105, 106, 107, 108, 109, 110] (by decide +kernel) (by decide +kernel)
set_option maxRecDepth 20000 in
theorem gX9_yawnsAct_X9_masterClimbs : GoodIn wsX9_yawnsAct (wsV RX9 453 RX9 yX9_masterClimbs wsX9_masterClimbs) := goodIn_app (goodIn_of _ (by decide +kernel)) ggX9_yawnsAct_X9_masterClimbs
theorem dX9_yawnsAct_0 : decode cX9_yawnsAct 0 = .ok (.aload_n 0, 1) := by decide +kernel
theorem dX9_yawnsAct_1 : decode cX9_yawnsAct 1 = .ok (.getfield 25, 3) := by decide +kernel
theorem dX9_yawnsAct_4 : decode cX9_yawnsAct 4 = .ok (.iload_n 1, 1) := by decide +kernel
theorem dX9_yawnsAct_5 : decode cX9_yawnsAct 5 = .ok (.iaload, 1) := by decide +kernel
theorem dX9_yawnsAct_6 : decode cX9_yawnsAct 6 = .ok (.lookupswitch 78 #[(1, 34), (4, 41), (6, 56)], 34) := by decide +kernel
theorem dX9_yawnsAct_40 : decode cX9_yawnsAct 40 = .ok (.aload_n 0, 1) := by decide +kernel
theorem dX9_yawnsAct_41 : decode cX9_yawnsAct 41 = .ok (.iload_n 1, 1) := by decide +kernel
theorem dX9_yawnsAct_42 : decode cX9_yawnsAct 42 = .ok (.iload_n 2, 1) := by decide +kernel
theorem dX9_yawnsAct_43 : decode cX9_yawnsAct 43 = .ok (.invokevirtual 462, 3) := by decide +kernel
theorem dX9_yawnsAct_46 : decode cX9_yawnsAct 46 = .ok (.ireturn, 1) := by decide +kernel
theorem dX9_yawnsAct_47 : decode cX9_yawnsAct 47 = .ok (.aload_n 0, 1) := by decide +kernel
theorem dX9_yawnsAct_48 : decode cX9_yawnsAct 48 = .ok (.bipush 51, 2) := by decide +kernel
theorem dX9_yawnsAct_50 : decode cX9_yawnsAct 50 = .ok (.invokevirtual 450, 3) := by decide +kernel
theorem dX9_yawnsAct_53 : decode cX9_yawnsAct 53 = .ok (.aload_n 0, 1) := by decide +kernel
theorem dX9_yawnsAct_54 : decode cX9_yawnsAct 54 = .ok (.iload_n 1, 1) := by decide +kernel
theorem dX9_yawnsAct_55 : decode cX9_yawnsAct 55 = .ok (.iload_n 2, 1) := by decide +kernel
theorem dX9_yawnsAct_56 : decode cX9_yawnsAct 56 = .ok (.iconst 1, 1) := by decide +kernel
theorem dX9_yawnsAct_57 : decode cX9_yawnsAct 57 = .ok (.iadd, 1) := by decide +kernel
theorem dX9_yawnsAct_58 : decode cX9_yawnsAct 58 = .ok (.invokevirtual 462, 3) := by decide +kernel
theorem dX9_yawnsAct_61 : decode cX9_yawnsAct 61 = .ok (.ireturn, 1) := by decide +kernel
theorem dX9_yawnsAct_62 : decode cX9_yawnsAct 62 = .ok (.aload_n 0, 1) := by decide +kernel
theorem dX9_yawnsAct_63 : decode cX9_yawnsAct 63 = .ok (.bipush 70, 2) := by decide +kernel
theorem dX9_yawnsAct_65 : decode cX9_yawnsAct 65 = .ok (.invokevirtual 450, 3) := by decide +kernel
theorem dX9_yawnsAct_68 : decode cX9_yawnsAct 68 = .ok (.aload_n 0, 1) := by decide +kernel
theorem dX9_yawnsAct_69 : decode cX9_yawnsAct 69 = .ok (.iload_n 1, 1) := by decide +kernel
theorem dX9_yawnsAct_70 : decode cX9_yawnsAct 70 = .ok (.iload_n 2, 1) := by decide +kernel
