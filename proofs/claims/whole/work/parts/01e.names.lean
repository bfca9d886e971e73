set_option maxRecDepth 20000 in
theorem ggX8_ring_X8_within : GoodIn wsX8_ring wsX8_within := goodIn_r _ [5] (by decide +kernel) (by decide +kernel)
set_option maxRecDepth 20000 in
theorem gX8_ring_X8_within : GoodIn wsX8_ring (va_wsS RX8 73 yX8_within wsX8_within) := goodIn_app (goodIn_of _ (by decide +kernel)) ggX8_ring_X8_within
set_option maxRecDepth 20000 in
theorem ggX8_ring_X1_rings : GoodIn wsX8_ring wsX1_rings := goodIn_r _ [10, 11, 12, 25, 26, 27, 28, 29, 30, 31, 32, 33, 34, 35, 36, 37, 38, 39, 40, 41] (by decide +kernel) (by decide +kernel)
set_option maxRecDepth 20000 in
theorem gX8_ring_X1_rings : GoodIn wsX8_ring (wsV RX8 129 RX1 yX1_rings wsX1_rings) := goodIn_app (goodIn_of _ (by decide +kernel)) ggX8_ring_X1_rings
theorem dX8_ring_0 : decode cX8_ring 0 = .ok (.iload_n 1, 1) := by decide +kernel
theorem dX8_ring_1 : decode cX8_ring 1 = .ok (.i2l, 1) := by decide +kernel
theorem dX8_ring_2 : decode cX8_ring 2 = .ok (.bipush 10, 2) := by decide +kernel
theorem dX8_ring_4 : decode cX8_ring 4 = .ok (.invokestatic 73, 3) := by decide +kernel
theorem dX8_ring_7 : decode cX8_ring 7 = .ok (.ifCond .eq 14, 3) := by decide +kernel
theorem dX8_ring_10 : decode cX8_ring 10 = .ok (.aload_n 0, 1) := by decide +kernel
theorem dX8_ring_11 : decode cX8_ring 11 = .ok (.getfield 17, 3) := by decide +kernel
theorem dX8_ring_14 : decode cX8_ring 14 = .ok (.iload_n 1, 1) := by decide +kernel
theorem dX8_ring_15 : decode cX8_ring 15 = .ok (.invokevirtual 129, 3) := by decide +kernel
theorem dX8_ring_18 : decode cX8_ring 18 = .ok (.goto 4, 3) := by decide +kernel
theorem dX8_ring_21 : decode cX8_ring 21 = .ok (.iconst (-1), 1) := by decide +kernel
theorem dX8_ring_22 : decode cX8_ring 22 = .ok (.ireturn, 1) := by decide +kernel
set_option maxRecDepth 20000 in
theorem ggX8_cross_X8_within : GoodIn wsX8_cross wsX8_within := goodIn_r _ [6] (by decide +kernel) (by decide +kernel)
set_option maxRecDepth 20000 in
theorem gX8_cross_X8_within : GoodIn wsX8_cross (va_wsS RX8 73 yX8_within wsX8_within) := goodIn_app (goodIn_of _ (by decide +kernel)) ggX8_cross_X8_within
set_option maxRecDepth 20000 in
theorem ggX8_cross_X8_swapIn : GoodIn wsX8_cross wsX8_swapIn := goodIn_r _ [9] (by decide +kernel) (by decide +kernel)
set_option maxRecDepth 20000 in
theorem gX8_cross_X8_swapIn : GoodIn wsX8_cross (va_wsS RX8 125 yX8_swapIn wsX8_swapIn) := goodIn_app (goodIn_of _ (by decide +kernel)) ggX8_cross_X8_swapIn
theorem dX8_cross_0 : decode cX8_cross 0 = .ok (.iload_n 1, 1) := by decide +kernel
theorem dX8_cross_1 : decode cX8_cross 1 = .ok (.i2l, 1) := by decide +kernel
theorem dX8_cross_2 : decode cX8_cross 2 = .ok (.bipush 10, 2) := by decide +kernel
theorem dX8_cross_4 : decode cX8_cross 4 = .ok (.invokestatic 73, 3) := by decide +kernel
theorem dX8_cross_7 : decode cX8_cross 7 = .ok (.ifCond .eq 13, 3) := by decide +kernel
theorem dX8_cross_10 : decode cX8_cross 10 = .ok (.iload_n 2, 1) := by decide +kernel
theorem dX8_cross_11 : decode cX8_cross 11 = .ok (.i2l, 1) := by decide +kernel
theorem dX8_cross_12 : decode cX8_cross 12 = .ok (.bipush 10, 2) := by decide +kernel
theorem dX8_cross_14 : decode cX8_cross 14 = .ok (.invokestatic 73, 3) := by decide +kernel
theorem dX8_cross_17 : decode cX8_cross 17 = .ok (.ifCond .ne 5, 3) := by decide +kernel
theorem dX8_cross_20 : decode cX8_cross 20 = .ok (.iconst (-1), 1) := by decide +kernel
theorem dX8_cross_21 : decode cX8_cross 21 = .ok (.ireturn, 1) := by decide +kernel
theorem dX8_cross_22 : decode cX8_cross 22 = .ok (.iload_n 1, 1) := by decide +kernel
theorem dX8_cross_23 : decode cX8_cross 23 = .ok (.iload_n 2, 1) := by decide +kernel
theorem dX8_cross_24 : decode cX8_cross 24 = .ok (.if_icmp .ne 6, 3) := by decide +kernel
theorem dX8_cross_27 : decode cX8_cross 27 = .ok (.bipush (-2), 2) := by decide +kernel
theorem dX8_cross_29 : decode cX8_cross 29 = .ok (.ireturn, 1) := by decide +kernel
theorem dX8_cross_30 : decode cX8_cross 30 = .ok (.aload_n 0, 1) := by decide +kernel
theorem dX8_cross_31 : decode cX8_cross 31 = .ok (.getfield 17, 3) := by decide +kernel
theorem dX8_cross_34 : decode cX8_cross 34 = .ok (.getfield 132, 3) := by decide +kernel
theorem dX8_cross_37 : decode cX8_cross 37 = .ok (.iload_n 2, 1) := by decide +kernel
theorem dX8_cross_38 : decode cX8_cross 38 = .ok (.aload_n 0, 1) := by decide +kernel
theorem dX8_cross_39 : decode cX8_cross 39 = .ok (.getfield 17, 3) := by decide +kernel
theorem dX8_cross_42 : decode cX8_cross 42 = .ok (.getfield 132, 3) := by decide +kernel
theorem dX8_cross_45 : decode cX8_cross 45 = .ok (.iload_n 1, 1) := by decide +kernel
theorem dX8_cross_46 : decode cX8_cross 46 = .ok (.aload_n 0, 1) := by decide +kernel
theorem dX8_cross_47 : decode cX8_cross 47 = .ok (.getfield 17, 3) := by decide +kernel
theorem dX8_cross_50 : decode cX8_cross 50 = .ok (.getfield 132, 3) := by decide +kernel
theorem dX8_cross_53 : decode cX8_cross 53 = .ok (.iload_n 2, 1) := by decide +kernel
theorem dX8_cross_54 : decode cX8_cross 54 = .ok (.iaload, 1) := by decide +kernel
theorem dX8_cross_55 : decode cX8_cross 55 = .ok (.invokestatic 125, 3) := by decide +kernel
theorem dX8_cross_58 : decode cX8_cross 58 = .ok (.iastore, 1) := by decide +kernel
theorem dX8_cross_59 : decode cX8_cross 59 = .ok (.aload_n 0, 1) := by decide +kernel
theorem dX8_cross_60 : decode cX8_cross 60 = .ok (.getfield 17, 3) := by decide +kernel
theorem dX8_cross_63 : decode cX8_cross 63 = .ok (.getfield 132, 3) := by decide +kernel
theorem dX8_cross_66 : decode cX8_cross 66 = .ok (.iload_n 1, 1) := by decide +kernel
theorem dX8_cross_67 : decode cX8_cross 67 = .ok (.iaload, 1) := by decide +kernel
theorem dX8_cross_68 : decode cX8_cross 68 = .ok (.ireturn, 1) := by decide +kernel
set_option maxRecDepth 20000 in
theorem ggX8_row_X8_isMaster : GoodIn wsX8_row wsX8_isMaster := goodIn_r _ [8, 1, 9, 10, 11, 7, 12, 16, 17, 18, 19, 20, 21, 22, 23, 24, 25, 26, 27, 28, 29, 30, 31, 32, 33, 34, 35, 36, 37, 38, 39, 40, 41, 42, 43, 44] (by decide +kernel) (by decide +kernel)
set_option maxRecDepth 20000 in
theorem gX8_row_X8_isMaster : GoodIn wsX8_row (wsV RX8 85 RX8 yX8_isMaster wsX8_isMaster) := goodIn_app (goodIn_of _ (by decide +kernel)) ggX8_row_X8_isMaster
set_option maxRecDepth 20000 in
theorem ggX8_row_X8_within : GoodIn wsX8_row wsX8_within := goodIn_r _ [12] (by decide +kernel) (by decide +kernel)
set_option maxRecDepth 20000 in
theorem gX8_row_X8_within : GoodIn wsX8_row (va_wsS RX8 73 yX8_within wsX8_within) := goodIn_app (goodIn_of _ (by decide +kernel)) ggX8_row_X8_within
set_option maxRecDepth 20000 in
theorem ggX8_row_X8_swapIn : GoodIn wsX8_row wsX8_swapIn := goodIn_r _ [15] (by decide +kernel) (by decide +kernel)
set_option maxRecDepth 20000 in
theorem gX8_row_X8_swapIn : GoodIn wsX8_row (va_wsS RX8 125 yX8_swapIn wsX8_swapIn) := goodIn_app (goodIn_of _ (by decide +kernel)) ggX8_row_X8_swapIn
theorem dX8_row_0 : decode cX8_row 0 = .ok (.aload_n 0, 1) := by decide +kernel
theorem dX8_row_1 : decode cX8_row 1 = .ok (.iload_n 1, 1) := by decide +kernel
theorem dX8_row_2 : decode cX8_row 2 = .ok (.i2l, 1) := by decide +kernel
theorem dX8_row_3 : decode cX8_row 3 = .ok (.invokevirtual 85, 3) := by decide +kernel
theorem dX8_row_6 : decode cX8_row 6 = .ok (.ifCond .eq 12, 3) := by decide +kernel
theorem dX8_row_9 : decode cX8_row 9 = .ok (.iload_n 2, 1) := by decide +kernel
theorem dX8_row_10 : decode cX8_row 10 = .ok (.i2l, 1) := by decide +kernel
theorem dX8_row_11 : decode cX8_row 11 = .ok (.iconst 4, 1) := by decide +kernel
theorem dX8_row_12 : decode cX8_row 12 = .ok (.invokestatic 73, 3) := by decide +kernel
theorem dX8_row_15 : decode cX8_row 15 = .ok (.ifCond .ne 5, 3) := by decide +kernel
theorem dX8_row_18 : decode cX8_row 18 = .ok (.iconst (-1), 1) := by decide +kernel
theorem dX8_row_19 : decode cX8_row 19 = .ok (.ireturn, 1) := by decide +kernel
theorem dX8_row_20 : decode cX8_row 20 = .ok (.iload_n 3, 1) := by decide +kernel
theorem dX8_row_21 : decode cX8_row 21 = .ok (.i2l, 1) := by decide +kernel
theorem dX8_row_22 : decode cX8_row 22 = .ok (.bipush 10, 2) := by decide +kernel
theorem dX8_row_24 : decode cX8_row 24 = .ok (.invokestatic 73, 3) := by decide +kernel
theorem dX8_row_27 : decode cX8_row 27 = .ok (.ifCond .ne 6, 3) := by decide +kernel
theorem dX8_row_30 : decode cX8_row 30 = .ok (.bipush (-2), 2) := by decide +kernel
theorem dX8_row_32 : decode cX8_row 32 = .ok (.ireturn, 1) := by decide +kernel
theorem dX8_row_33 : decode cX8_row 33 = .ok (.aload_n 0, 1) := by decide +kernel
theorem dX8_row_34 : decode cX8_row 34 = .ok (.getfield 17, 3) := by decide +kernel
theorem dX8_row_37 : decode cX8_row 37 = .ok (.getfield 95, 3) := by decide +kernel
theorem dX8_row_40 : decode cX8_row 40 = .ok (.iload_n 1, 1) := by decide +kernel
theorem dX8_row_41 : decode cX8_row 41 = .ok (.iaload, 1) := by decide +kernel
theorem dX8_row_42 : decode cX8_row 42 = .ok (.bipush 6, 2) := by decide +kernel
theorem dX8_row_44 : decode cX8_row 44 = .ok (.if_icmp .eq 6, 3) := by decide +kernel
theorem dX8_row_47 : decode cX8_row 47 = .ok (.bipush (-3), 2) := by decide +kernel
theorem dX8_row_49 : decode cX8_row 49 = .ok (.ireturn, 1) := by decide +kernel
theorem dX8_row_50 : decode cX8_row 50 = .ok (.aload_n 0, 1) := by decide +kernel
theorem dX8_row_51 : decode cX8_row 51 = .ok (.getfield 17, 3) := by decide +kernel
theorem dX8_row_54 : decode cX8_row 54 = .ok (.getfield 135, 3) := by decide +kernel
theorem dX8_row_57 : decode cX8_row 57 = .ok (.iload_n 1, 1) := by decide +kernel
theorem dX8_row_58 : decode cX8_row 58 = .ok (.iconst 4, 1) := by decide +kernel
theorem dX8_row_59 : decode cX8_row 59 = .ok (.imul, 1) := by decide +kernel
theorem dX8_row_60 : decode cX8_row 60 = .ok (.iload_n 2, 1) := by decide +kernel
theorem dX8_row_61 : decode cX8_row 61 = .ok (.iadd, 1) := by decide +kernel
theorem dX8_row_62 : decode cX8_row 62 = .ok (.iload_n 3, 1) := by decide +kernel
theorem dX8_row_63 : decode cX8_row 63 = .ok (.invokestatic 125, 3) := by decide +kernel
theorem dX8_row_66 : decode cX8_row 66 = .ok (.ireturn, 1) := by decide +kernel
set_option maxRecDepth 20000 in
theorem ggX8_feed_X8_within : GoodIn wsX8_feed wsX8_within := goodIn_r _ [6] (by decide +kernel) (by decide +kernel)
set_option maxRecDepth 20000 in
theorem gX8_feed_X8_within : GoodIn wsX8_feed (va_wsS RX8 73 yX8_within wsX8_within) := goodIn_app (goodIn_of _ (by decide +kernel)) ggX8_feed_X8_within
set_option maxRecDepth 20000 in
theorem ggX8_feed_X7_adds : GoodIn wsX8_feed wsX7_adds := goodIn_r _ [11, 12, 13, 26, 27, 28, 29, 30] (by decide +kernel) (by decide +kernel)
set_option maxRecDepth 20000 in
theorem gX8_feed_X7_adds : GoodIn wsX8_feed (wsV RX8 141 RX7 yX7_adds wsX7_adds) := goodIn_app (goodIn_of _ (by decide +kernel)) ggX8_feed_X7_adds
theorem dX8_feed_0 : decode cX8_feed 0 = .ok (.iload_n 1, 1) := by decide +kernel
theorem dX8_feed_1 : decode cX8_feed 1 = .ok (.i2l, 1) := by decide +kernel
theorem dX8_feed_2 : decode cX8_feed 2 = .ok (.sipush 128, 3) := by decide +kernel
theorem dX8_feed_5 : decode cX8_feed 5 = .ok (.invokestatic 73, 3) := by decide +kernel
theorem dX8_feed_8 : decode cX8_feed 8 = .ok (.ifCond .ne 6, 3) := by decide +kernel
theorem dX8_feed_11 : decode cX8_feed 11 = .ok (.bipush (-2), 2) := by decide +kernel
theorem dX8_feed_13 : decode cX8_feed 13 = .ok (.ireturn, 1) := by decide +kernel
theorem dX8_feed_14 : decode cX8_feed 14 = .ok (.aload_n 0, 1) := by decide +kernel
theorem dX8_feed_15 : decode cX8_feed 15 = .ok (.getfield 41, 3) := by decide +kernel
theorem dX8_feed_18 : decode cX8_feed 18 = .ok (.getfield 138, 3) := by decide +kernel
theorem dX8_feed_21 : decode cX8_feed 21 = .ok (.bipush 100, 2) := by decide +kernel
theorem dX8_feed_23 : decode cX8_feed 23 = .ok (.if_icmp .lt 8, 3) := by decide +kernel
theorem dX8_feed_26 : decode cX8_feed 26 = .ok (.bipush (-4), 2) := by decide +kernel
theorem dX8_feed_28 : decode cX8_feed 28 = .ok (.goto 11, 3) := by decide +kernel
theorem dX8_feed_31 : decode cX8_feed 31 = .ok (.aload_n 0, 1) := by decide +kernel
theorem dX8_feed_32 : decode cX8_feed 32 = .ok (.getfield 41, 3) := by decide +kernel
theorem dX8_feed_35 : decode cX8_feed 35 = .ok (.iload_n 1, 1) := by decide +kernel
theorem dX8_feed_36 : decode cX8_feed 36 = .ok (.invokevirtual 141, 3) := by decide +kernel
theorem dX8_feed_39 : decode cX8_feed 39 = .ok (.ireturn, 1) := by decide +kernel
set_option maxRecDepth 20000 in
theorem ggX8_house_X7_makes : GoodIn wsX8_house wsX7_makes := goodIn_r _ [11, 12, 13, 14, 15, 16, 17, 18, 19, 20, 21, 22, 23, 24, 25, 10, 26, 27, 28, 29, 30, 31, 32, 33, 34, 35, 36, 37, 38, 39, 40, 41, 42, 43, 44, 45, 46, 47, 48, 49, 50, 51, 52, 53, 54, 55, 56, 57, 58, 59, 60, 61, 62, 63, 64, 65, 66, 67, 68, 69, 70, 71, 72, 73, 74, 75, 76, 77, 78, 79, 80, 81, 82, 83, 84, 85, 86, 87, 88, 89, 90, 91, 92, 93, 94, 95, 96, 97, 98, 99, 100, 101, 102, 103, 104, 105, 106, 107, 108, 109, 110, 111, 112, 113, 114, 115, 116, 117, 118, 119, 120, 121, 122, 123, 124, 125, 126, 127, 128, 129, 130, 131, 132, 133, 134, 135, 136, 137, 138, 139, 140, 141, 142, 143, 144, 145, 146, 147, 148, 149, 150, 151, 152, 153, 154, 155, 156, 157, 158, 159, 160, 161, 162, 163, 164, 165, 166, 167, 168, 169, 170, 171, 172, 173, 174, 175, 176, 177, 178, 179, 192, 193, 194, 195, 196, 214, 215, 216] (by decide +kernel) (by decide +kernel)
set_option maxRecDepth 20000 in
theorem gX8_house_X7_makes : GoodIn wsX8_house (wsV RX8 147 RX7 yX7_makes wsX7_makes) := goodIn_app (goodIn_of _ (by decide +kernel)) ggX8_house_X7_makes
theorem dX8_house_0 : decode cX8_house 0 = .ok (.aload_n 0, 1) := by decide +kernel
theorem dX8_house_1 : decode cX8_house 1 = .ok (.getfield 144, 3) := by decide +kernel
theorem dX8_house_4 : decode cX8_house 4 = .ok (.bipush 6, 2) := by decide +kernel
theorem dX8_house_6 : decode cX8_house 6 = .ok (.if_icmp .lt 6, 3) := by decide +kernel
theorem dX8_house_9 : decode cX8_house 9 = .ok (.bipush (-4), 2) := by decide +kernel
theorem dX8_house_11 : decode cX8_house 11 = .ok (.ireturn, 1) := by decide +kernel
theorem dX8_house_12 : decode cX8_house 12 = .ok (.aload_n 0, 1) := by decide +kernel
theorem dX8_house_13 : decode cX8_house 13 = .ok (.getfield 47, 3) := by decide +kernel
theorem dX8_house_16 : decode cX8_house 16 = .ok (.aload_n 0, 1) := by decide +kernel
theorem dX8_house_17 : decode cX8_house 17 = .ok (.getfield 144, 3) := by decide +kernel
theorem dX8_house_20 : decode cX8_house 20 = .ok (.aaload, 1) := by decide +kernel
theorem dX8_house_21 : decode cX8_house 21 = .ok (.astore_n 1, 1) := by decide +kernel
theorem dX8_house_22 : decode cX8_house 22 = .ok (.aload_n 0, 1) := by decide +kernel
theorem dX8_house_23 : decode cX8_house 23 = .ok (.getfield 41, 3) := by decide +kernel
theorem dX8_house_26 : decode cX8_house 26 = .ok (.aload_n 1, 1) := by decide +kernel
theorem dX8_house_27 : decode cX8_house 27 = .ok (.invokevirtual 147, 3) := by decide +kernel
theorem dX8_house_30 : decode cX8_house 30 = .ok (.ifCond .ne 14, 3) := by decide +kernel
theorem dX8_house_33 : decode cX8_house 33 = .ok (.bipush (-10), 2) := by decide +kernel
theorem dX8_house_35 : decode cX8_house 35 = .ok (.aload_n 0, 1) := by decide +kernel
theorem dX8_house_36 : decode cX8_house 36 = .ok (.getfield 41, 3) := by decide +kernel
theorem dX8_house_39 : decode cX8_house 39 = .ok (.getfield 151, 3) := by decide +kernel
theorem dX8_house_42 : decode cX8_house 42 = .ok (.isub, 1) := by decide +kernel
theorem dX8_house_43 : decode cX8_house 43 = .ok (.ireturn, 1) := by decide +kernel
theorem dX8_house_44 : decode cX8_house 44 = .ok (.aload_n 0, 1) := by decide +kernel
theorem dX8_house_45 : decode cX8_house 45 = .ok (.getfield 17, 3) := by decide +kernel
theorem dX8_house_48 : decode cX8_house 48 = .ok (.aload_n 1, 1) := by decide +kernel
theorem dX8_house_49 : decode cX8_house 49 = .ok (.putfield 154, 3) := by decide +kernel
theorem dX8_house_52 : decode cX8_house 52 = .ok (.aload_n 0, 1) := by decide +kernel
theorem dX8_house_53 : decode cX8_house 53 = .ok (.dup, 1) := by decide +kernel
theorem dX8_house_54 : decode cX8_house 54 = .ok (.getfield 144, 3) := by decide +kernel
theorem dX8_house_57 : decode cX8_house 57 = .ok (.iconst 1, 1) := by decide +kernel
theorem dX8_house_58 : decode cX8_house 58 = .ok (.iadd, 1) := by decide +kernel
theorem dX8_house_59 : decode cX8_house 59 = .ok (.putfield 144, 3) := by decide +kernel
theorem dX8_house_62 : decode cX8_house 62 = .ok (.aload_n 0, 1) := by decide +kernel
theorem dX8_house_63 : decode cX8_house 63 = .ok (.getfield 144, 3) := by decide +kernel
theorem dX8_house_66 : decode cX8_house 66 = .ok (.iconst 1, 1) := by decide +kernel
theorem dX8_house_67 : decode cX8_house 67 = .ok (.isub, 1) := by decide +kernel
theorem dX8_house_68 : decode cX8_house 68 = .ok (.ireturn, 1) := by decide +kernel
set_option maxRecDepth 20000 in
theorem ggX8_told_X8_within : GoodIn wsX8_told wsX8_within := goodIn_r _ [13] (by decide +kernel) (by decide +kernel)
set_option maxRecDepth 20000 in
theorem gX8_told_X8_within : GoodIn wsX8_told (va_wsS RX8 73 yX8_within wsX8_within) := goodIn_app (goodIn_of _ (by decide +kernel)) ggX8_told_X8_within
set_option maxRecDepth 20000 in
theorem ggX8_told_X1_loop : GoodIn wsX8_told wsX1_loop := goodIn_r _ [18, 19, 140, 141, 142, 143, 144, 145, 146, 147, 148, 149, 150, 151, 152, 153, 154, 155, 156] (by decide +kernel) (by decide +kernel)
set_option maxRecDepth 20000 in
theorem gX8_told_X1_loop : GoodIn wsX8_told (wsV RX8 160 RX1 yX1_loop wsX1_loop) := goodIn_app (goodIn_of _ (by decide +kernel)) ggX8_told_X1_loop
set_option maxRecDepth 20000 in
theorem ggX8_told_X8_quiet : GoodIn wsX8_told wsX8_quiet := goodIn_r _ [23, 24, 2, 8, 25, 26, 27, 17, 28, 29, 30, 31, 32, 33, 34, 35, 36, 19, 37, 38, 39, 40, 41, 42, 12, 43, 44, 45, 46, 47, 48, 49, 50, 51, 52, 53, 54, 55, 56, 57, 58, 59, 60, 61, 62, 63, 64, 65, 66, 67, 68, 69, 70, 71, 72, 73, 74, 75, 76, 77, 78, 79, 80, 81, 82, 83, 84, 85, 86, 87, 88, 89, 90, 91, 92, 93, 94, 95, 96, 97, 98, 99, 100, 101, 102, 103, 104, 105, 106, 107, 108, 109, 110, 111, 112, 113, 114, 115, 116, 117, 118, 119, 128, 129, 130, 131, 132, 133, 134, 135, 136, 137, 138, 139, 140, 141, 142, 143, 144, 145, 146, 147, 148, 149, 150, 151, 152, 153, 154, 155, 156, 157, 158, 159] (by decide +kernel) (by decide +kernel)
set_option maxRecDepth 20000 in
theorem gX8_told_X8_quiet : GoodIn wsX8_told (wsV RX8 175 RX8 yX8_quiet wsX8_quiet) := goodIn_app (goodIn_of _ (by decide +kernel)) ggX8_told_X8_quiet
set_option maxRecDepth 20000 in
theorem ggX8_told_X1_crossings : GoodIn wsX8_told wsX1_crossings := goodIn_r _ [123, 19, 140, 141, 142, 143, 144, 145, 146, 147, 148, 149, 150, 151, 152, 153, 154, 155, 156] (by decide +kernel) (by decide +kernel)
set_option maxRecDepth 20000 in
theorem gX8_told_X1_crossings : GoodIn wsX8_told (wsV RX8 179 RX1 yX1_crossings wsX1_crossings) := goodIn_app (goodIn_of _ (by decide +kernel)) ggX8_told_X1_crossings
set_option maxRecDepth 20000 in
theorem ggX8_told_X1_firstCrossed : GoodIn wsX8_told wsX1_firstCrossed := goodIn_r _ [127, 19, 140, 141, 142, 143, 144, 145, 146, 147, 148, 149, 150, 151, 152, 153, 154, 155, 156] (by decide +kernel) (by decide +kernel)
set_option maxRecDepth 20000 in
theorem gX8_told_X1_firstCrossed : GoodIn wsX8_told (wsV RX8 182 RX1 yX1_firstCrossed wsX1_firstCrossed) := goodIn_app (goodIn_of _ (by decide +kernel)) ggX8_told_X1_firstCrossed
theorem dX8_told_0 : decode cX8_told 0 = .ok (.iload_n 1, 1) := by decide +kernel
theorem dX8_told_1 : decode cX8_told 1 = .ok (.i2l, 1) := by decide +kernel
theorem dX8_told_2 : decode cX8_told 2 = .ok (.ldc2_w 89, 3) := by decide +kernel
theorem dX8_told_5 : decode cX8_told 5 = .ok (.lsub, 1) := by decide +kernel
theorem dX8_told_6 : decode cX8_told 6 = .ok (.bipush 10, 2) := by decide +kernel
theorem dX8_told_8 : decode cX8_told 8 = .ok (.invokestatic 73, 3) := by decide +kernel
theorem dX8_told_11 : decode cX8_told 11 = .ok (.ifCond .eq 16, 3) := by decide +kernel
theorem dX8_told_14 : decode cX8_told 14 = .ok (.aload_n 0, 1) := by decide +kernel
theorem dX8_told_15 : decode cX8_told 15 = .ok (.getfield 17, 3) := by decide +kernel
theorem dX8_told_18 : decode cX8_told 18 = .ok (.getfield 132, 3) := by decide +kernel
theorem dX8_told_21 : decode cX8_told 21 = .ok (.iload_n 1, 1) := by decide +kernel
theorem dX8_told_22 : decode cX8_told 22 = .ok (.bipush 10, 2) := by decide +kernel
theorem dX8_told_24 : decode cX8_told 24 = .ok (.isub, 1) := by decide +kernel
theorem dX8_told_25 : decode cX8_told 25 = .ok (.iaload, 1) := by decide +kernel
theorem dX8_told_26 : decode cX8_told 26 = .ok (.ireturn, 1) := by decide +kernel
theorem dX8_told_27 : decode cX8_told 27 = .ok (.iload_n 1, 1) := by decide +kernel
theorem dX8_told_28 : decode cX8_told 28 = .ok (.i2l, 1) := by decide +kernel
theorem dX8_told_29 : decode cX8_told 29 = .ok (.ldc2_w 158, 3) := by decide +kernel
theorem dX8_told_32 : decode cX8_told 32 = .ok (.lsub, 1) := by decide +kernel
theorem dX8_told_33 : decode cX8_told 33 = .ok (.bipush 10, 2) := by decide +kernel
theorem dX8_told_35 : decode cX8_told 35 = .ok (.invokestatic 73, 3) := by decide +kernel
theorem dX8_told_38 : decode cX8_told 38 = .ok (.ifCond .eq 15, 3) := by decide +kernel
theorem dX8_told_41 : decode cX8_told 41 = .ok (.aload_n 0, 1) := by decide +kernel
theorem dX8_told_42 : decode cX8_told 42 = .ok (.getfield 17, 3) := by decide +kernel
theorem dX8_told_45 : decode cX8_told 45 = .ok (.iload_n 1, 1) := by decide +kernel
theorem dX8_told_46 : decode cX8_told 46 = .ok (.bipush 20, 2) := by decide +kernel
theorem dX8_told_48 : decode cX8_told 48 = .ok (.isub, 1) := by decide +kernel
theorem dX8_told_49 : decode cX8_told 49 = .ok (.invokevirtual 160, 3) := by decide +kernel
theorem dX8_told_52 : decode cX8_told 52 = .ok (.ireturn, 1) := by decide +kernel
theorem dX8_told_53 : decode cX8_told 53 = .ok (.iload_n 1, 1) := by decide +kernel
theorem dX8_told_54 : decode cX8_told 54 = .ok (.tableswitch 112 0 6 #[42, 50, 75, 83, 91, 96, 104], 42) := by decide +kernel
theorem dX8_told_96 : decode cX8_told 96 = .ok (.aload_n 0, 1) := by decide +kernel
theorem dX8_told_97 : decode cX8_told 97 = .ok (.getfield 17, 3) := by decide +kernel
theorem dX8_told_100 : decode cX8_told 100 = .ok (.getfield 163, 3) := by decide +kernel
theorem dX8_told_103 : decode cX8_told 103 = .ok (.ireturn, 1) := by decide +kernel
theorem dX8_told_104 : decode cX8_told 104 = .ok (.aload_n 0, 1) := by decide +kernel
theorem dX8_told_105 : decode cX8_told 105 = .ok (.getfield 17, 3) := by decide +kernel
theorem dX8_told_108 : decode cX8_told 108 = .ok (.getfield 154, 3) := by decide +kernel
theorem dX8_told_111 : decode cX8_told 111 = .ok (.ifnonnull 7, 3) := by decide +kernel
theorem dX8_told_114 : decode cX8_told 114 = .ok (.iconst 2, 1) := by decide +kernel
theorem dX8_told_115 : decode cX8_told 115 = .ok (.goto 13, 3) := by decide +kernel
theorem dX8_told_118 : decode cX8_told 118 = .ok (.aload_n 0, 1) := by decide +kernel
theorem dX8_told_119 : decode cX8_told 119 = .ok (.getfield 17, 3) := by decide +kernel
theorem dX8_told_122 : decode cX8_told 122 = .ok (.getfield 154, 3) := by decide +kernel
theorem dX8_told_125 : decode cX8_told 125 = .ok (.getfield 166, 3) := by decide +kernel
theorem dX8_told_128 : decode cX8_told 128 = .ok (.ireturn, 1) := by decide +kernel
theorem dX8_told_129 : decode cX8_told 129 = .ok (.aload_n 0, 1) := by decide +kernel
theorem dX8_told_130 : decode cX8_told 130 = .ok (.getfield 17, 3) := by decide +kernel
theorem dX8_told_133 : decode cX8_told 133 = .ok (.getfield 169, 3) := by decide +kernel
theorem dX8_told_136 : decode cX8_told 136 = .ok (.ireturn, 1) := by decide +kernel
theorem dX8_told_137 : decode cX8_told 137 = .ok (.aload_n 0, 1) := by decide +kernel
theorem dX8_told_138 : decode cX8_told 138 = .ok (.getfield 17, 3) := by decide +kernel
theorem dX8_told_141 : decode cX8_told 141 = .ok (.getfield 172, 3) := by decide +kernel
theorem dX8_told_144 : decode cX8_told 144 = .ok (.ireturn, 1) := by decide +kernel
theorem dX8_told_145 : decode cX8_told 145 = .ok (.aload_n 0, 1) := by decide +kernel
theorem dX8_told_146 : decode cX8_told 146 = .ok (.invokevirtual 175, 3) := by decide +kernel
theorem dX8_told_149 : decode cX8_told 149 = .ok (.ireturn, 1) := by decide +kernel
theorem dX8_told_150 : decode cX8_told 150 = .ok (.aload_n 0, 1) := by decide +kernel
theorem dX8_told_151 : decode cX8_told 151 = .ok (.getfield 17, 3) := by decide +kernel
theorem dX8_told_154 : decode cX8_told 154 = .ok (.invokevirtual 179, 3) := by decide +kernel
theorem dX8_told_157 : decode cX8_told 157 = .ok (.ireturn, 1) := by decide +kernel
theorem dX8_told_158 : decode cX8_told 158 = .ok (.aload_n 0, 1) := by decide +kernel
theorem dX8_told_159 : decode cX8_told 159 = .ok (.getfield 17, 3) := by decide +kernel
theorem dX8_told_162 : decode cX8_told 162 = .ok (.invokevirtual 182, 3) := by decide +kernel
theorem dX8_told_165 : decode cX8_told 165 = .ok (.ireturn, 1) := by decide +kernel
theorem dX8_told_166 : decode cX8_told 166 = .ok (.iconst (-1), 1) := by decide +kernel
theorem dX8_told_167 : decode cX8_told 167 = .ok (.ireturn, 1) := by decide +kernel
set_option maxRecDepth 20000 in
theorem ggX8_pass_X8_within : GoodIn wsX8_pass wsX8_within := goodIn_r _ [6] (by decide +kernel) (by decide +kernel)
set_option maxRecDepth 20000 in
theorem gX8_pass_X8_within : GoodIn wsX8_pass (va_wsS RX8 73 yX8_within wsX8_within) := goodIn_app (goodIn_of _ (by decide +kernel)) ggX8_pass_X8_within
set_option maxRecDepth 20000 in
theorem ggX8_pass_X1_goes : GoodIn wsX8_pass wsX1_goes := goodIn_r _ [11, 12, 13, 14, 15, 16, 17, 18, 19, 20, 21, 22, 23, 24, 10, 25, 26, 27, 28, 29, 30, 31, 32, 33, 34, 35, 36, 37, 38, 39, 40, 41, 42, 43, 44, 45, 46, 47, 48, 49, 50, 51, 52, 53, 54, 55, 56, 57, 58, 59, 60, 61, 62, 63, 64, 65, 66, 67, 68, 69, 70, 71, 72, 73, 74, 75, 76, 77, 78, 79, 80, 81, 82, 83, 84, 85, 86, 87, 88, 89, 90, 91, 104, 105, 106, 107, 108, 109, 110, 111, 112, 113, 114, 115, 116, 117, 118, 119, 120, 121, 122, 123] (by decide +kernel) (by decide +kernel)
set_option maxRecDepth 20000 in
theorem gX8_pass_X1_goes : GoodIn wsX8_pass (wsV RX8 185 RX1 yX1_goes wsX1_goes) := goodIn_app (goodIn_of _ (by decide +kernel)) ggX8_pass_X1_goes
theorem dX8_pass_0 : decode cX8_pass 0 = .ok (.iload_n 1, 1) := by decide +kernel
theorem dX8_pass_1 : decode cX8_pass 1 = .ok (.i2l, 1) := by decide +kernel
theorem dX8_pass_2 : decode cX8_pass 2 = .ok (.bipush 61, 2) := by decide +kernel
theorem dX8_pass_4 : decode cX8_pass 4 = .ok (.invokestatic 73, 3) := by decide +kernel
theorem dX8_pass_7 : decode cX8_pass 7 = .ok (.ifCond .ne 6, 3) := by decide +kernel
theorem dX8_pass_10 : decode cX8_pass 10 = .ok (.bipush (-2), 2) := by decide +kernel
theorem dX8_pass_12 : decode cX8_pass 12 = .ok (.ireturn, 1) := by decide +kernel
theorem dX8_pass_13 : decode cX8_pass 13 = .ok (.aload_n 0, 1) := by decide +kernel
theorem dX8_pass_14 : decode cX8_pass 14 = .ok (.getfield 17, 3) := by decide +kernel
theorem dX8_pass_17 : decode cX8_pass 17 = .ok (.getfield 163, 3) := by decide +kernel
theorem dX8_pass_20 : decode cX8_pass 20 = .ok (.iload_n 1, 1) := by decide +kernel
theorem dX8_pass_21 : decode cX8_pass 21 = .ok (.iadd, 1) := by decide +kernel
theorem dX8_pass_22 : decode cX8_pass 22 = .ok (.sipush 9999, 3) := by decide +kernel
theorem dX8_pass_25 : decode cX8_pass 25 = .ok (.if_icmp .le 6, 3) := by decide +kernel
theorem dX8_pass_28 : decode cX8_pass 28 = .ok (.bipush (-3), 2) := by decide +kernel
theorem dX8_pass_30 : decode cX8_pass 30 = .ok (.ireturn, 1) := by decide +kernel
theorem dX8_pass_31 : decode cX8_pass 31 = .ok (.aload_n 0, 1) := by decide +kernel
theorem dX8_pass_32 : decode cX8_pass 32 = .ok (.getfield 17, 3) := by decide +kernel
theorem dX8_pass_35 : decode cX8_pass 35 = .ok (.iload_n 1, 1) := by decide +kernel
theorem dX8_pass_36 : decode cX8_pass 36 = .ok (.invokevirtual 185, 3) := by decide +kernel
theorem dX8_pass_39 : decode cX8_pass 39 = .ok (.aload_n 0, 1) := by decide +kernel
theorem dX8_pass_40 : decode cX8_pass 40 = .ok (.getfield 17, 3) := by decide +kernel
theorem dX8_pass_43 : decode cX8_pass 43 = .ok (.getfield 163, 3) := by decide +kernel
theorem dX8_pass_46 : decode cX8_pass 46 = .ok (.ireturn, 1) := by decide +kernel
set_option maxRecDepth 20000 in
theorem ggX8_on_X8_isMaster : GoodIn wsX8_on wsX8_isMaster := goodIn_r _ [13, 4, 14, 15, 16, 12, 17, 115, 116, 117, 118, 119, 120, 121, 122, 123, 124, 125, 126, 127, 128, 129, 130, 131, 132, 133, 134, 135, 136, 137, 138, 139, 140, 141, 142, 143] (by decide +kernel) (by decide +kernel)
set_option maxRecDepth 20000 in
theorem gX8_on_X8_isMaster : GoodIn wsX8_on (wsV RX8 85 RX8 yX8_isMaster wsX8_isMaster) := goodIn_app (goodIn_of _ (by decide +kernel)) ggX8_on_X8_isMaster
set_option maxRecDepth 20000 in
theorem ggX8_on_X8_within : GoodIn wsX8_on wsX8_within := goodIn_r _ [17] (by decide +kernel) (by decide +kernel)
set_option maxRecDepth 20000 in
theorem gX8_on_X8_within : GoodIn wsX8_on (va_wsS RX8 73 yX8_within wsX8_within) := goodIn_app (goodIn_of _ (by decide +kernel)) ggX8_on_X8_within
set_option maxRecDepth 20000 in
theorem ggX8_on_X1_copies : GoodIn wsX8_on wsX1_copies := goodIn_r _ [22, 23, 24, 25, 26, 27, 28, 29, 30, 31, 32, 33, 34, 35, 36, 37, 12, 38, 39, 40, 41, 42, 43, 44, 45, 46, 127, 128, 129, 130, 131, 132, 133, 134, 135, 136, 137, 138, 139, 140, 141, 142, 143] (by decide +kernel) (by decide +kernel)
set_option maxRecDepth 20000 in
theorem gX8_on_X1_copies : GoodIn wsX8_on (wsV RX8 189 RX1 yX1_copies wsX1_copies) := goodIn_app (goodIn_of _ (by decide +kernel)) ggX8_on_X1_copies
set_option maxRecDepth 20000 in
theorem ggX8_on_X1_goes : GoodIn wsX8_on wsX1_goes := goodIn_r _ [50, 32, 28, 51, 34, 33, 52, 40, 41, 42, 35, 53, 54, 55, 21, 56, 26, 57, 58, 59, 60, 61, 62, 63, 64, 65, 66, 67, 68, 69, 70, 71, 72, 73, 74, 75, 76, 27, 77, 78, 79, 80, 25, 24, 23, 29, 30, 81, 82, 83, 84, 85, 86, 87, 36, 88, 89, 90, 91, 92, 93, 94, 95, 96, 97, 98, 99, 100, 101, 102, 103, 104, 105, 106, 107, 108, 109, 110, 111, 112, 113, 114, 127, 128, 129, 130, 131, 132, 133, 134, 135, 136, 137, 138, 139, 140, 141, 142, 143, 144, 145, 146] (by decide +kernel) (by decide +kernel)
set_option maxRecDepth 20000 in
theorem gX8_on_X1_goes : GoodIn wsX8_on (wsV RX8 185 RX1 yX1_goes wsX1_goes) := goodIn_app (goodIn_of _ (by decide +kernel)) ggX8_on_X1_goes
theorem dX8_on_0 : decode cX8_on 0 = .ok (.aload_n 0, 1) := by decide +kernel
theorem dX8_on_1 : decode cX8_on 1 = .ok (.iload_n 2, 1) := by decide +kernel
theorem dX8_on_2 : decode cX8_on 2 = .ok (.i2l, 1) := by decide +kernel
theorem dX8_on_3 : decode cX8_on 3 = .ok (.ldc2_w 89, 3) := by decide +kernel
theorem dX8_on_6 : decode cX8_on 6 = .ok (.lsub, 1) := by decide +kernel
theorem dX8_on_7 : decode cX8_on 7 = .ok (.invokevirtual 85, 3) := by decide +kernel
theorem dX8_on_10 : decode cX8_on 10 = .ok (.istore_n 3, 1) := by decide +kernel
theorem dX8_on_11 : decode cX8_on 11 = .ok (.aload_n 0, 1) := by decide +kernel
theorem dX8_on_12 : decode cX8_on 12 = .ok (.iload_n 2, 1) := by decide +kernel
theorem dX8_on_13 : decode cX8_on 13 = .ok (.i2l, 1) := by decide +kernel
theorem dX8_on_14 : decode cX8_on 14 = .ok (.ldc2_w 158, 3) := by decide +kernel
theorem dX8_on_17 : decode cX8_on 17 = .ok (.lsub, 1) := by decide +kernel
theorem dX8_on_18 : decode cX8_on 18 = .ok (.invokevirtual 85, 3) := by decide +kernel
theorem dX8_on_21 : decode cX8_on 21 = .ok (.istore 4, 2) := by decide +kernel
theorem dX8_on_23 : decode cX8_on 23 = .ok (.iload_n 2, 1) := by decide +kernel
theorem dX8_on_24 : decode cX8_on 24 = .ok (.i2l, 1) := by decide +kernel
theorem dX8_on_25 : decode cX8_on 25 = .ok (.iconst 2, 1) := by decide +kernel
theorem dX8_on_26 : decode cX8_on 26 = .ok (.invokestatic 73, 3) := by decide +kernel
theorem dX8_on_29 : decode cX8_on 29 = .ok (.ifCond .ne 14, 3) := by decide +kernel
theorem dX8_on_32 : decode cX8_on 32 = .ok (.iload_n 3, 1) := by decide +kernel
theorem dX8_on_33 : decode cX8_on 33 = .ok (.ifCond .ne 10, 3) := by decide +kernel
theorem dX8_on_36 : decode cX8_on 36 = .ok (.iload 4, 2) := by decide +kernel
theorem dX8_on_38 : decode cX8_on 38 = .ok (.ifCond .ne 5, 3) := by decide +kernel
theorem dX8_on_41 : decode cX8_on 41 = .ok (.iconst (-1), 1) := by decide +kernel
theorem dX8_on_42 : decode cX8_on 42 = .ok (.ireturn, 1) := by decide +kernel
theorem dX8_on_43 : decode cX8_on 43 = .ok (.iload_n 1, 1) := by decide +kernel
theorem dX8_on_44 : decode cX8_on 44 = .ok (.i2l, 1) := by decide +kernel
theorem dX8_on_45 : decode cX8_on 45 = .ok (.bipush 61, 2) := by decide +kernel
theorem dX8_on_47 : decode cX8_on 47 = .ok (.invokestatic 73, 3) := by decide +kernel
theorem dX8_on_50 : decode cX8_on 50 = .ok (.ifCond .ne 6, 3) := by decide +kernel
theorem dX8_on_53 : decode cX8_on 53 = .ok (.bipush (-2), 2) := by decide +kernel
theorem dX8_on_55 : decode cX8_on 55 = .ok (.ireturn, 1) := by decide +kernel
theorem dX8_on_56 : decode cX8_on 56 = .ok (.aload_n 0, 1) := by decide +kernel
theorem dX8_on_57 : decode cX8_on 57 = .ok (.getfield 22, 3) := by decide +kernel
theorem dX8_on_60 : decode cX8_on 60 = .ok (.aload_n 0, 1) := by decide +kernel
theorem dX8_on_61 : decode cX8_on 61 = .ok (.getfield 17, 3) := by decide +kernel
theorem dX8_on_64 : decode cX8_on 64 = .ok (.invokevirtual 189, 3) := by decide +kernel
theorem dX8_on_67 : decode cX8_on 67 = .ok (.aload_n 0, 1) := by decide +kernel
theorem dX8_on_68 : decode cX8_on 68 = .ok (.getfield 22, 3) := by decide +kernel
theorem dX8_on_71 : decode cX8_on 71 = .ok (.iload_n 1, 1) := by decide +kernel
theorem dX8_on_72 : decode cX8_on 72 = .ok (.invokevirtual 185, 3) := by decide +kernel
theorem dX8_on_75 : decode cX8_on 75 = .ok (.iload_n 3, 1) := by decide +kernel
theorem dX8_on_76 : decode cX8_on 76 = .ok (.ifCond .eq 16, 3) := by decide +kernel
theorem dX8_on_79 : decode cX8_on 79 = .ok (.aload_n 0, 1) := by decide +kernel
theorem dX8_on_80 : decode cX8_on 80 = .ok (.getfield 22, 3) := by decide +kernel
theorem dX8_on_83 : decode cX8_on 83 = .ok (.getfield 102, 3) := by decide +kernel
theorem dX8_on_86 : decode cX8_on 86 = .ok (.iload_n 2, 1) := by decide +kernel
theorem dX8_on_87 : decode cX8_on 87 = .ok (.bipush 10, 2) := by decide +kernel
theorem dX8_on_89 : decode cX8_on 89 = .ok (.isub, 1) := by decide +kernel
theorem dX8_on_90 : decode cX8_on 90 = .ok (.iaload, 1) := by decide +kernel
theorem dX8_on_91 : decode cX8_on 91 = .ok (.ireturn, 1) := by decide +kernel
theorem dX8_on_92 : decode cX8_on 92 = .ok (.iload 4, 2) := by decide +kernel
theorem dX8_on_94 : decode cX8_on 94 = .ok (.ifCond .eq 16, 3) := by decide +kernel
theorem dX8_on_97 : decode cX8_on 97 = .ok (.aload_n 0, 1) := by decide +kernel
theorem dX8_on_98 : decode cX8_on 98 = .ok (.getfield 22, 3) := by decide +kernel
theorem dX8_on_101 : decode cX8_on 101 = .ok (.getfield 105, 3) := by decide +kernel
theorem dX8_on_104 : decode cX8_on 104 = .ok (.iload_n 2, 1) := by decide +kernel
theorem dX8_on_105 : decode cX8_on 105 = .ok (.bipush 20, 2) := by decide +kernel
theorem dX8_on_107 : decode cX8_on 107 = .ok (.isub, 1) := by decide +kernel
theorem dX8_on_108 : decode cX8_on 108 = .ok (.iaload, 1) := by decide +kernel
theorem dX8_on_109 : decode cX8_on 109 = .ok (.ireturn, 1) := by decide +kernel
theorem dX8_on_110 : decode cX8_on 110 = .ok (.iload_n 2, 1) := by decide +kernel
theorem dX8_on_111 : decode cX8_on 111 = .ok (.ifCond .ne 13, 3) := by decide +kernel
theorem dX8_on_114 : decode cX8_on 114 = .ok (.aload_n 0, 1) := by decide +kernel
theorem dX8_on_115 : decode cX8_on 115 = .ok (.getfield 22, 3) := by decide +kernel
theorem dX8_on_118 : decode cX8_on 118 = .ok (.getfield 169, 3) := by decide +kernel
theorem dX8_on_121 : decode cX8_on 121 = .ok (.goto 10, 3) := by decide +kernel
theorem dX8_on_124 : decode cX8_on 124 = .ok (.aload_n 0, 1) := by decide +kernel
theorem dX8_on_125 : decode cX8_on 125 = .ok (.getfield 22, 3) := by decide +kernel
theorem dX8_on_128 : decode cX8_on 128 = .ok (.getfield 172, 3) := by decide +kernel
theorem dX8_on_131 : decode cX8_on 131 = .ok (.ireturn, 1) := by decide +kernel
set_option maxRecDepth 20000 in
theorem ggX8_bell_X8_within : GoodIn wsX8_bell wsX8_within := goodIn_r _ [6] (by decide +kernel) (by decide +kernel)
set_option maxRecDepth 20000 in
theorem gX8_bell_X8_within : GoodIn wsX8_bell (va_wsS RX8 73 yX8_within wsX8_within) := goodIn_app (goodIn_of _ (by decide +kernel)) ggX8_bell_X8_within
set_option maxRecDepth 20000 in
theorem ggX8_bell_X1_copies : GoodIn wsX8_bell wsX1_copies := goodIn_r _ [11, 12, 13, 14, 15, 16, 17, 18, 19, 20, 21, 22, 23, 24, 25, 26, 5, 27, 28, 29, 30, 31, 32, 33, 34, 35, 131, 132, 133, 134, 135, 136, 137, 138, 139, 140, 141, 142, 143, 144, 145, 146, 147] (by decide +kernel) (by decide +kernel)
set_option maxRecDepth 20000 in
theorem gX8_bell_X1_copies : GoodIn wsX8_bell (wsV RX8 189 RX1 yX1_copies wsX1_copies) := goodIn_app (goodIn_of _ (by decide +kernel)) ggX8_bell_X1_copies
set_option maxRecDepth 20000 in
theorem ggX8_bell_X1_rings : GoodIn wsX8_bell wsX1_rings := goodIn_r _ [39, 22, 20, 131, 132, 133, 134, 135, 136, 137, 138, 139, 140, 141, 142, 143, 144, 145, 146, 147] (by decide +kernel) (by decide +kernel)
set_option maxRecDepth 20000 in
theorem gX8_bell_X1_rings : GoodIn wsX8_bell (wsV RX8 129 RX1 yX1_rings wsX1_rings) := goodIn_app (goodIn_of _ (by decide +kernel)) ggX8_bell_X1_rings
set_option maxRecDepth 20000 in
theorem ggX8_bell_X8_minutesTo : GoodIn wsX8_bell wsX8_minutesTo := goodIn_r _ [43, 1, 44, 45, 46, 10, 47, 21, 17, 48, 23, 22, 49, 29, 30, 31, 24, 50, 51, 52, 53, 15, 54, 55, 56, 57, 58, 59, 60, 61, 62, 63, 64, 65, 66, 67, 68, 69, 70, 71, 72, 73, 16, 74, 75, 76, 77, 14, 13, 12, 18, 19, 78, 79, 80, 81, 82, 83, 84, 25, 85, 86, 87, 88, 89, 90, 91, 92, 93, 94, 95, 96, 97, 98, 99, 100, 101, 102, 103, 104, 105, 106, 107, 108, 109, 110, 111, 112, 119, 120, 121, 122, 123, 124, 125, 126, 127, 128, 129, 130, 131, 132, 133, 134, 135, 136, 137, 138, 139, 140, 141, 142, 143, 144, 145, 146, 147, 148, 149, 150] (by decide +kernel) (by decide +kernel)
set_option maxRecDepth 20000 in
theorem gX8_bell_X8_minutesTo : GoodIn wsX8_bell (wsV RX8 193 RX8 yX8_minutesTo wsX8_minutesTo) := goodIn_app (goodIn_of _ (by decide +kernel)) ggX8_bell_X8_minutesTo
set_option maxRecDepth 20000 in
theorem ggX8_bell_X8_whoGoesTo : GoodIn wsX8_bell wsX8_whoGoesTo := goodIn_r _ [116, 1, 117, 51, 52, 10, 53, 15, 54, 55, 56, 57, 58, 59, 60, 61, 22, 62, 63, 64, 65, 21, 66, 67, 68, 69, 70, 71, 72, 73, 17, 16, 74, 75, 76, 77, 14, 13, 12, 18, 24, 19, 78, 79, 80, 81, 82, 83, 30, 84, 25, 85, 86, 87, 88, 89, 90, 91, 92, 118, 119, 120, 121, 122, 123, 124, 125, 126, 127, 128, 129, 130, 131, 132, 133, 134, 135, 136, 137, 138, 139, 140, 141, 142, 143, 144, 145, 146, 147, 148, 149, 150] (by decide +kernel) (by decide +kernel)
set_option maxRecDepth 20000 in
theorem gX8_bell_X8_whoGoesTo : GoodIn wsX8_bell (wsV RX8 196 RX8 yX8_whoGoesTo wsX8_whoGoesTo) := goodIn_app (goodIn_of _ (by decide +kernel)) ggX8_bell_X8_whoGoesTo
theorem dX8_bell_0 : decode cX8_bell 0 = .ok (.iload_n 1, 1) := by decide +kernel
theorem dX8_bell_1 : decode cX8_bell 1 = .ok (.i2l, 1) := by decide +kernel
theorem dX8_bell_2 : decode cX8_bell 2 = .ok (.bipush 10, 2) := by decide +kernel
theorem dX8_bell_4 : decode cX8_bell 4 = .ok (.invokestatic 73, 3) := by decide +kernel
theorem dX8_bell_7 : decode cX8_bell 7 = .ok (.ifCond .eq 12, 3) := by decide +kernel
theorem dX8_bell_10 : decode cX8_bell 10 = .ok (.iload_n 2, 1) := by decide +kernel
theorem dX8_bell_11 : decode cX8_bell 11 = .ok (.i2l, 1) := by decide +kernel
theorem dX8_bell_12 : decode cX8_bell 12 = .ok (.iconst 2, 1) := by decide +kernel
theorem dX8_bell_13 : decode cX8_bell 13 = .ok (.invokestatic 73, 3) := by decide +kernel
theorem dX8_bell_16 : decode cX8_bell 16 = .ok (.ifCond .ne 5, 3) := by decide +kernel
theorem dX8_bell_19 : decode cX8_bell 19 = .ok (.iconst (-1), 1) := by decide +kernel
theorem dX8_bell_20 : decode cX8_bell 20 = .ok (.ireturn, 1) := by decide +kernel
theorem dX8_bell_21 : decode cX8_bell 21 = .ok (.aload_n 0, 1) := by decide +kernel
theorem dX8_bell_22 : decode cX8_bell 22 = .ok (.getfield 22, 3) := by decide +kernel
theorem dX8_bell_25 : decode cX8_bell 25 = .ok (.aload_n 0, 1) := by decide +kernel
theorem dX8_bell_26 : decode cX8_bell 26 = .ok (.getfield 17, 3) := by decide +kernel
theorem dX8_bell_29 : decode cX8_bell 29 = .ok (.invokevirtual 189, 3) := by decide +kernel
theorem dX8_bell_32 : decode cX8_bell 32 = .ok (.aload_n 0, 1) := by decide +kernel
theorem dX8_bell_33 : decode cX8_bell 33 = .ok (.getfield 22, 3) := by decide +kernel
theorem dX8_bell_36 : decode cX8_bell 36 = .ok (.iload_n 1, 1) := by decide +kernel
theorem dX8_bell_37 : decode cX8_bell 37 = .ok (.invokevirtual 129, 3) := by decide +kernel
theorem dX8_bell_40 : decode cX8_bell 40 = .ok (.istore_n 3, 1) := by decide +kernel
theorem dX8_bell_41 : decode cX8_bell 41 = .ok (.iload_n 2, 1) := by decide +kernel
theorem dX8_bell_42 : decode cX8_bell 42 = .ok (.ifCond .ne 11, 3) := by decide +kernel
theorem dX8_bell_45 : decode cX8_bell 45 = .ok (.aload_n 0, 1) := by decide +kernel
theorem dX8_bell_46 : decode cX8_bell 46 = .ok (.iload_n 3, 1) := by decide +kernel
theorem dX8_bell_47 : decode cX8_bell 47 = .ok (.invokevirtual 193, 3) := by decide +kernel
theorem dX8_bell_50 : decode cX8_bell 50 = .ok (.goto 8, 3) := by decide +kernel
theorem dX8_bell_53 : decode cX8_bell 53 = .ok (.aload_n 0, 1) := by decide +kernel
theorem dX8_bell_54 : decode cX8_bell 54 = .ok (.iload_n 3, 1) := by decide +kernel
theorem dX8_bell_55 : decode cX8_bell 55 = .ok (.invokevirtual 196, 3) := by decide +kernel
theorem dX8_bell_58 : decode cX8_bell 58 = .ok (.ireturn, 1) := by decide +kernel
set_option maxRecDepth 20000 in
theorem ggX8_shared_X8_within : GoodIn wsX8_shared wsX8_within := goodIn_r _ [10] (by decide +kernel) (by decide +kernel)
set_option maxRecDepth 20000 in
theorem gX8_shared_X8_within : GoodIn wsX8_shared (va_wsS RX8 73 yX8_within wsX8_within) := goodIn_app (goodIn_of _ (by decide +kernel)) ggX8_shared_X8_within
set_option maxRecDepth 20000 in
theorem ggX8_shared_X5_finds : GoodIn wsX8_shared wsX5_finds := goodIn_r _ [15, 16, 17, 18, 19, 20, 21, 22, 14, 23, 24, 25, 26, 27, 28, 29, 30, 31, 32, 33, 34, 35, 36, 37, 38, 39, 40, 41, 42, 43, 44, 45, 46, 47, 48, 49, 50, 51, 52, 53, 54, 55, 56, 57, 58, 59, 60, 61, 62, 63, 64, 65, 66, 67, 68, 69, 70, 71, 72, 73, 74, 75, 76, 77, 78, 79, 80, 81, 82, 83, 84, 85, 86, 87, 88, 89, 90, 91, 92, 93, 94, 95, 108, 109, 110, 111, 112, 113, 114, 115, 116, 117, 118, 119, 120, 121, 122, 123, 124, 125, 126, 127, 128, 129, 130, 131, 132, 133] (by decide +kernel) (by decide +kernel)
set_option maxRecDepth 20000 in
theorem gX8_shared_X5_finds : GoodIn wsX8_shared (wsV RX8 199 RX5 yX5_finds wsX5_finds) := goodIn_app (goodIn_of _ (by decide +kernel)) ggX8_shared_X5_finds
theorem dX8_shared_0 : decode cX8_shared 0 = .ok (.iload_n 1, 1) := by decide +kernel
theorem dX8_shared_1 : decode cX8_shared 1 = .ok (.i2l, 1) := by decide +kernel
theorem dX8_shared_2 : decode cX8_shared 2 = .ok (.ldc2_w 89, 3) := by decide +kernel
theorem dX8_shared_5 : decode cX8_shared 5 = .ok (.lsub, 1) := by decide +kernel
theorem dX8_shared_6 : decode cX8_shared 6 = .ok (.bipush 10, 2) := by decide +kernel
theorem dX8_shared_8 : decode cX8_shared 8 = .ok (.invokestatic 73, 3) := by decide +kernel
theorem dX8_shared_11 : decode cX8_shared 11 = .ok (.istore_n 2, 1) := by decide +kernel
theorem dX8_shared_12 : decode cX8_shared 12 = .ok (.iload_n 1, 1) := by decide +kernel
theorem dX8_shared_13 : decode cX8_shared 13 = .ok (.i2l, 1) := by decide +kernel
theorem dX8_shared_14 : decode cX8_shared 14 = .ok (.iconst 2, 1) := by decide +kernel
theorem dX8_shared_15 : decode cX8_shared 15 = .ok (.invokestatic 73, 3) := by decide +kernel
theorem dX8_shared_18 : decode cX8_shared 18 = .ok (.ifCond .ne 11, 3) := by decide +kernel
theorem dX8_shared_21 : decode cX8_shared 21 = .ok (.iload_n 2, 1) := by decide +kernel
theorem dX8_shared_22 : decode cX8_shared 22 = .ok (.ifCond .ne 7, 3) := by decide +kernel
theorem dX8_shared_25 : decode cX8_shared 25 = .ok (.sipush (-10001), 3) := by decide +kernel
theorem dX8_shared_28 : decode cX8_shared 28 = .ok (.ireturn, 1) := by decide +kernel
theorem dX8_shared_29 : decode cX8_shared 29 = .ok (.aload_n 0, 1) := by decide +kernel
theorem dX8_shared_30 : decode cX8_shared 30 = .ok (.getfield 54, 3) := by decide +kernel
theorem dX8_shared_33 : decode cX8_shared 33 = .ok (.aload_n 0, 1) := by decide +kernel
theorem dX8_shared_34 : decode cX8_shared 34 = .ok (.getfield 17, 3) := by decide +kernel
theorem dX8_shared_37 : decode cX8_shared 37 = .ok (.invokevirtual 199, 3) := by decide +kernel
theorem dX8_shared_40 : decode cX8_shared 40 = .ok (.iload_n 2, 1) := by decide +kernel
theorem dX8_shared_41 : decode cX8_shared 41 = .ok (.ifCond .eq 16, 3) := by decide +kernel
theorem dX8_shared_44 : decode cX8_shared 44 = .ok (.aload_n 0, 1) := by decide +kernel
theorem dX8_shared_45 : decode cX8_shared 45 = .ok (.getfield 54, 3) := by decide +kernel
theorem dX8_shared_48 : decode cX8_shared 48 = .ok (.getfield 202, 3) := by decide +kernel
theorem dX8_shared_51 : decode cX8_shared 51 = .ok (.iload_n 1, 1) := by decide +kernel
theorem dX8_shared_52 : decode cX8_shared 52 = .ok (.bipush 10, 2) := by decide +kernel
theorem dX8_shared_54 : decode cX8_shared 54 = .ok (.isub, 1) := by decide +kernel
theorem dX8_shared_55 : decode cX8_shared 55 = .ok (.iaload, 1) := by decide +kernel
theorem dX8_shared_56 : decode cX8_shared 56 = .ok (.ireturn, 1) := by decide +kernel
theorem dX8_shared_57 : decode cX8_shared 57 = .ok (.iload_n 1, 1) := by decide +kernel
theorem dX8_shared_58 : decode cX8_shared 58 = .ok (.ifCond .ne 13, 3) := by decide +kernel
theorem dX8_shared_61 : decode cX8_shared 61 = .ok (.aload_n 0, 1) := by decide +kernel
theorem dX8_shared_62 : decode cX8_shared 62 = .ok (.getfield 54, 3) := by decide +kernel
theorem dX8_shared_65 : decode cX8_shared 65 = .ok (.getfield 205, 3) := by decide +kernel
theorem dX8_shared_68 : decode cX8_shared 68 = .ok (.goto 10, 3) := by decide +kernel
theorem dX8_shared_71 : decode cX8_shared 71 = .ok (.aload_n 0, 1) := by decide +kernel
theorem dX8_shared_72 : decode cX8_shared 72 = .ok (.getfield 54, 3) := by decide +kernel
theorem dX8_shared_75 : decode cX8_shared 75 = .ok (.getfield 208, 3) := by decide +kernel
theorem dX8_shared_78 : decode cX8_shared 78 = .ok (.ireturn, 1) := by decide +kernel
set_option maxRecDepth 20000 in
theorem ggX8_see_X4_empties : GoodIn wsX8_see wsX4_empties := goodIn_r _ [7, 8, 46, 47, 48, 49] (by decide +kernel) (by decide +kernel)
set_option maxRecDepth 20000 in
theorem gX8_see_X4_empties : GoodIn wsX8_see (wsV RX8 214 RX4 yX4_empties wsX4_empties) := goodIn_app (goodIn_of _ (by decide +kernel)) ggX8_see_X4_empties
set_option maxRecDepth 20000 in
theorem ggX8_see_X8_isMaster : GoodIn wsX8_see wsX8_isMaster := goodIn_r _ [13, 14, 15, 16, 17, 12, 18, 31, 32, 33, 34, 35, 36, 37, 38, 39, 40, 41, 42, 50, 51, 52, 53, 54, 55, 56, 57, 58, 59, 60, 61, 62, 63, 64, 65, 66] (by decide +kernel) (by decide +kernel)
set_option maxRecDepth 20000 in
theorem gX8_see_X8_isMaster : GoodIn wsX8_see (wsV RX8 85 RX8 yX8_isMaster wsX8_isMaster) := goodIn_app (goodIn_of _ (by decide +kernel)) ggX8_see_X8_isMaster
set_option maxRecDepth 20000 in
theorem ggX8_see_X8_within : GoodIn wsX8_see wsX8_within := goodIn_r _ [18] (by decide +kernel) (by decide +kernel)
set_option maxRecDepth 20000 in
theorem gX8_see_X8_within : GoodIn wsX8_see (va_wsS RX8 73 yX8_within wsX8_within) := goodIn_app (goodIn_of _ (by decide +kernel)) ggX8_see_X8_within
set_option maxRecDepth 20000 in
theorem ggX8_see_X4_isFull : GoodIn wsX8_see wsX4_isFull := goodIn_r _ [22, 8, 23, 46, 47, 48, 49] (by decide +kernel) (by decide +kernel)
set_option maxRecDepth 20000 in
theorem gX8_see_X4_isFull : GoodIn wsX8_see (wsV RX8 219 RX4 yX4_isFull wsX4_isFull) := goodIn_app (goodIn_of _ (by decide +kernel)) ggX8_see_X4_isFull
set_option maxRecDepth 20000 in
theorem ggX8_see_X4_adds : GoodIn wsX8_see wsX4_adds := goodIn_r _ [27, 23, 8, 28, 29, 30, 20, 21, 6, 22, 46, 47, 48, 49] (by decide +kernel) (by decide +kernel)
set_option maxRecDepth 20000 in
theorem gX8_see_X4_adds : GoodIn wsX8_see (wsV RX8 223 RX4 yX4_adds wsX4_adds) := goodIn_app (goodIn_of _ (by decide +kernel)) ggX8_see_X4_adds
theorem dX8_see_0 : decode cX8_see 0 = .ok (.iload_n 1, 1) := by decide +kernel
theorem dX8_see_1 : decode cX8_see 1 = .ok (.iconst (-1), 1) := by decide +kernel
theorem dX8_see_2 : decode cX8_see 2 = .ok (.if_icmp .ne 14, 3) := by decide +kernel
theorem dX8_see_5 : decode cX8_see 5 = .ok (.aload_n 0, 1) := by decide +kernel
theorem dX8_see_6 : decode cX8_see 6 = .ok (.getfield 31, 3) := by decide +kernel
theorem dX8_see_9 : decode cX8_see 9 = .ok (.getfield 210, 3) := by decide +kernel
theorem dX8_see_12 : decode cX8_see 12 = .ok (.invokevirtual 214, 3) := by decide +kernel
theorem dX8_see_15 : decode cX8_see 15 = .ok (.ireturn, 1) := by decide +kernel
theorem dX8_see_16 : decode cX8_see 16 = .ok (.aload_n 0, 1) := by decide +kernel
theorem dX8_see_17 : decode cX8_see 17 = .ok (.iload_n 1, 1) := by decide +kernel
theorem dX8_see_18 : decode cX8_see 18 = .ok (.i2l, 1) := by decide +kernel
theorem dX8_see_19 : decode cX8_see 19 = .ok (.invokevirtual 85, 3) := by decide +kernel
theorem dX8_see_22 : decode cX8_see 22 = .ok (.ifCond .eq 13, 3) := by decide +kernel
theorem dX8_see_25 : decode cX8_see 25 = .ok (.iload_n 3, 1) := by decide +kernel
theorem dX8_see_26 : decode cX8_see 26 = .ok (.i2l, 1) := by decide +kernel
theorem dX8_see_27 : decode cX8_see 27 = .ok (.bipush 10, 2) := by decide +kernel
theorem dX8_see_29 : decode cX8_see 29 = .ok (.invokestatic 73, 3) := by decide +kernel
theorem dX8_see_32 : decode cX8_see 32 = .ok (.ifCond .ne 5, 3) := by decide +kernel
theorem dX8_see_35 : decode cX8_see 35 = .ok (.iconst (-1), 1) := by decide +kernel
theorem dX8_see_36 : decode cX8_see 36 = .ok (.ireturn, 1) := by decide +kernel
theorem dX8_see_37 : decode cX8_see 37 = .ok (.iload_n 2, 1) := by decide +kernel
theorem dX8_see_38 : decode cX8_see 38 = .ok (.i2l, 1) := by decide +kernel
theorem dX8_see_39 : decode cX8_see 39 = .ok (.bipush 21, 2) := by decide +kernel
theorem dX8_see_41 : decode cX8_see 41 = .ok (.invokestatic 73, 3) := by decide +kernel
theorem dX8_see_44 : decode cX8_see 44 = .ok (.ifCond .ne 6, 3) := by decide +kernel
theorem dX8_see_47 : decode cX8_see 47 = .ok (.bipush (-2), 2) := by decide +kernel
theorem dX8_see_49 : decode cX8_see 49 = .ok (.ireturn, 1) := by decide +kernel
theorem dX8_see_50 : decode cX8_see 50 = .ok (.aload_n 0, 1) := by decide +kernel
theorem dX8_see_51 : decode cX8_see 51 = .ok (.getfield 31, 3) := by decide +kernel
theorem dX8_see_54 : decode cX8_see 54 = .ok (.getfield 210, 3) := by decide +kernel
theorem dX8_see_57 : decode cX8_see 57 = .ok (.invokevirtual 219, 3) := by decide +kernel
theorem dX8_see_60 : decode cX8_see 60 = .ok (.ifCond .eq 8, 3) := by decide +kernel
theorem dX8_see_63 : decode cX8_see 63 = .ok (.bipush (-4), 2) := by decide +kernel
theorem dX8_see_65 : decode cX8_see 65 = .ok (.goto 16, 3) := by decide +kernel
theorem dX8_see_68 : decode cX8_see 68 = .ok (.aload_n 0, 1) := by decide +kernel
theorem dX8_see_69 : decode cX8_see 69 = .ok (.getfield 31, 3) := by decide +kernel
theorem dX8_see_72 : decode cX8_see 72 = .ok (.getfield 210, 3) := by decide +kernel
theorem dX8_see_75 : decode cX8_see 75 = .ok (.iload_n 1, 1) := by decide +kernel
theorem dX8_see_76 : decode cX8_see 76 = .ok (.iload_n 3, 1) := by decide +kernel
theorem dX8_see_77 : decode cX8_see 77 = .ok (.iload_n 2, 1) := by decide +kernel
theorem dX8_see_78 : decode cX8_see 78 = .ok (.invokevirtual 223, 3) := by decide +kernel
theorem dX8_see_81 : decode cX8_see 81 = .ok (.ireturn, 1) := by decide +kernel
set_option maxRecDepth 20000 in
theorem ggX8_from_X8_isMaster : GoodIn wsX8_from wsX8_isMaster := goodIn_r _ [8, 2, 9, 10, 11, 7, 12, 124, 125, 126, 127, 128, 129, 130, 131, 132, 133, 134, 135, 136, 137, 138, 139, 140, 141, 142, 143, 144, 145, 146, 147, 148, 149, 150, 151, 152] (by decide +kernel) (by decide +kernel)
set_option maxRecDepth 20000 in
theorem gX8_from_X8_isMaster : GoodIn wsX8_from (wsV RX8 85 RX8 yX8_isMaster wsX8_isMaster) := goodIn_app (goodIn_of _ (by decide +kernel)) ggX8_from_X8_isMaster
set_option maxRecDepth 20000 in
theorem ggX8_from_X1_copies : GoodIn wsX8_from wsX1_copies := goodIn_r _ [17, 18, 19, 20, 21, 22, 23, 24, 25, 26, 27, 28, 29, 30, 31, 32, 7, 33, 34, 35, 36, 37, 38, 39, 40, 41, 136, 137, 138, 139, 140, 141, 142, 143, 144, 145, 146, 147, 148, 149, 150, 151, 152] (by decide +kernel) (by decide +kernel)
set_option maxRecDepth 20000 in
theorem gX8_from_X1_copies : GoodIn wsX8_from (wsV RX8 189 RX1 yX1_copies wsX1_copies) := goodIn_app (goodIn_of _ (by decide +kernel)) ggX8_from_X1_copies
set_option maxRecDepth 20000 in
theorem ggX8_from_X8_allIsSeen : GoodIn wsX8_from wsX8_allIsSeen := goodIn_r _ [45, 1, 46, 47, 48, 7, 49, 50, 51, 52, 53, 3, 54, 55, 56, 57, 58, 16, 59, 27, 23, 60, 29, 28, 61, 35, 36, 37, 30, 62, 63, 64, 65, 21, 66, 67, 68, 69, 70, 71, 72, 73, 74, 75, 76, 77, 78, 79, 80, 81, 82, 83, 84, 85, 22, 86, 87, 88, 89, 20, 19, 18, 24, 25, 90, 91, 92, 93, 94, 95, 96, 31, 97, 98, 99, 100, 101, 102, 103, 104, 105, 106, 107, 108, 109, 110, 111, 112, 113, 114, 115, 116, 117, 118, 119, 120, 121, 122, 123, 124, 125, 126, 127, 128, 129, 130, 131, 132, 133, 134, 135, 153, 154, 155, 156, 157, 158, 159, 136, 137, 138, 139, 140, 141, 142, 143, 144, 145, 146, 147, 148, 149, 150, 151, 152, 160, 161, 162] (by decide +kernel) (by decide +kernel)
set_option maxRecDepth 20000 in
theorem gX8_from_X8_allIsSeen : GoodIn wsX8_from (wsV RX8 225 RX8 yX8_allIsSeen wsX8_allIsSeen) := goodIn_app (goodIn_of _ (by decide +kernel)) ggX8_from_X8_allIsSeen
theorem dX8_from_0 : decode cX8_from 0 = .ok (.aload_n 0, 1) := by decide +kernel
theorem dX8_from_1 : decode cX8_from 1 = .ok (.iload_n 1, 1) := by decide +kernel
theorem dX8_from_2 : decode cX8_from 2 = .ok (.i2l, 1) := by decide +kernel
theorem dX8_from_3 : decode cX8_from 3 = .ok (.invokevirtual 85, 3) := by decide +kernel
theorem dX8_from_6 : decode cX8_from 6 = .ok (.ifCond .ne 5, 3) := by decide +kernel
theorem dX8_from_9 : decode cX8_from 9 = .ok (.iconst (-1), 1) := by decide +kernel
theorem dX8_from_10 : decode cX8_from 10 = .ok (.ireturn, 1) := by decide +kernel
theorem dX8_from_11 : decode cX8_from 11 = .ok (.iconst 0, 1) := by decide +kernel
theorem dX8_from_12 : decode cX8_from 12 = .ok (.istore_n 2, 1) := by decide +kernel
theorem dX8_from_13 : decode cX8_from 13 = .ok (.iconst 0, 1) := by decide +kernel
theorem dX8_from_14 : decode cX8_from 14 = .ok (.istore_n 3, 1) := by decide +kernel
theorem dX8_from_15 : decode cX8_from 15 = .ok (.iload_n 3, 1) := by decide +kernel
theorem dX8_from_16 : decode cX8_from 16 = .ok (.bipush 10, 2) := by decide +kernel
theorem dX8_from_18 : decode cX8_from 18 = .ok (.if_icmp .ge 43, 3) := by decide +kernel
theorem dX8_from_21 : decode cX8_from 21 = .ok (.aload_n 0, 1) := by decide +kernel
theorem dX8_from_22 : decode cX8_from 22 = .ok (.getfield 22, 3) := by decide +kernel
theorem dX8_from_25 : decode cX8_from 25 = .ok (.aload_n 0, 1) := by decide +kernel
theorem dX8_from_26 : decode cX8_from 26 = .ok (.getfield 17, 3) := by decide +kernel
theorem dX8_from_29 : decode cX8_from 29 = .ok (.invokevirtual 189, 3) := by decide +kernel
theorem dX8_from_32 : decode cX8_from 32 = .ok (.aload_n 0, 1) := by decide +kernel
theorem dX8_from_33 : decode cX8_from 33 = .ok (.getfield 22, 3) := by decide +kernel
theorem dX8_from_36 : decode cX8_from 36 = .ok (.getfield 102, 3) := by decide +kernel
theorem dX8_from_39 : decode cX8_from 39 = .ok (.iload_n 1, 1) := by decide +kernel
theorem dX8_from_40 : decode cX8_from 40 = .ok (.iload_n 3, 1) := by decide +kernel
theorem dX8_from_41 : decode cX8_from 41 = .ok (.iastore, 1) := by decide +kernel
theorem dX8_from_42 : decode cX8_from 42 = .ok (.aload_n 0, 1) := by decide +kernel
theorem dX8_from_43 : decode cX8_from 43 = .ok (.invokevirtual 225, 3) := by decide +kernel
theorem dX8_from_46 : decode cX8_from 46 = .ok (.ifCond .eq 9, 3) := by decide +kernel
theorem dX8_from_49 : decode cX8_from 49 = .ok (.iload_n 2, 1) := by decide +kernel
theorem dX8_from_50 : decode cX8_from 50 = .ok (.iconst 1, 1) := by decide +kernel
theorem dX8_from_51 : decode cX8_from 51 = .ok (.iload_n 3, 1) := by decide +kernel
theorem dX8_from_52 : decode cX8_from 52 = .ok (.ishl, 1) := by decide +kernel
theorem dX8_from_53 : decode cX8_from 53 = .ok (.ior, 1) := by decide +kernel
theorem dX8_from_54 : decode cX8_from 54 = .ok (.istore_n 2, 1) := by decide +kernel
theorem dX8_from_55 : decode cX8_from 55 = .ok (.iinc 3 1, 3) := by decide +kernel
theorem dX8_from_58 : decode cX8_from 58 = .ok (.goto (-43), 3) := by decide +kernel
theorem dX8_from_61 : decode cX8_from 61 = .ok (.iload_n 2, 1) := by decide +kernel
theorem dX8_from_62 : decode cX8_from 62 = .ok (.ireturn, 1) := by decide +kernel
set_option maxRecDepth 20000 in
theorem ggX8_can_X8_isMaster : GoodIn wsX8_can wsX8_isMaster := goodIn_r _ [8, 2, 9, 10, 11, 7, 12, 125, 126, 127, 128, 129, 130, 131, 132, 133, 134, 135, 136, 137, 138, 139, 140, 141, 142, 143, 144, 145, 146, 147, 148, 149, 150, 151, 152, 153] (by decide +kernel) (by decide +kernel)
set_option maxRecDepth 20000 in
theorem gX8_can_X8_isMaster : GoodIn wsX8_can (wsV RX8 85 RX8 yX8_isMaster wsX8_isMaster) := goodIn_app (goodIn_of _ (by decide +kernel)) ggX8_can_X8_isMaster
set_option maxRecDepth 20000 in
theorem ggX8_can_X8_within : GoodIn wsX8_can wsX8_within := goodIn_r _ [12] (by decide +kernel) (by decide +kernel)
set_option maxRecDepth 20000 in
theorem gX8_can_X8_within : GoodIn wsX8_can (va_wsS RX8 73 yX8_within wsX8_within) := goodIn_app (goodIn_of _ (by decide +kernel)) ggX8_can_X8_within
set_option maxRecDepth 20000 in
theorem ggX8_can_X1_copies : GoodIn wsX8_can wsX1_copies := goodIn_r _ [17, 18, 19, 20, 21, 22, 23, 24, 25, 26, 27, 28, 29, 30, 31, 32, 7, 33, 34, 35, 36, 37, 38, 39, 40, 41, 137, 138, 139, 140, 141, 142, 143, 144, 145, 146, 147, 148, 149, 150, 151, 152, 153] (by decide +kernel) (by decide +kernel)
set_option maxRecDepth 20000 in
theorem gX8_can_X1_copies : GoodIn wsX8_can (wsV RX8 189 RX1 yX1_copies wsX1_copies) := goodIn_app (goodIn_of _ (by decide +kernel)) ggX8_can_X1_copies
set_option maxRecDepth 20000 in
theorem ggX8_can_X8_allIsSeen : GoodIn wsX8_can wsX8_allIsSeen := goodIn_r _ [45, 1, 46, 47, 48, 7, 49, 50, 51, 52, 53, 54, 55, 56, 57, 58, 59, 16, 60, 27, 23, 61, 29, 28, 62, 35, 36, 37, 30, 63, 64, 65, 66, 21, 67, 68, 69, 70, 71, 72, 73, 74, 75, 76, 77, 78, 79, 80, 81, 82, 83, 84, 85, 86, 22, 87, 88, 89, 90, 20, 19, 18, 24, 25, 91, 92, 93, 94, 95, 96, 97, 31, 98, 99, 100, 101, 102, 103, 104, 105, 106, 107, 108, 109, 110, 111, 112, 113, 114, 115, 116, 117, 118, 119, 120, 121, 122, 123, 124, 125, 126, 127, 128, 129, 130, 131, 132, 133, 134, 135, 136, 154, 155, 156, 157, 158, 159, 160, 137, 138, 139, 140, 141, 142, 143, 144, 145, 146, 147, 148, 149, 150, 151, 152, 153, 161, 162, 163] (by decide +kernel) (by decide +kernel)
set_option maxRecDepth 20000 in
theorem gX8_can_X8_allIsSeen : GoodIn wsX8_can (wsV RX8 225 RX8 yX8_allIsSeen wsX8_allIsSeen) := goodIn_app (goodIn_of _ (by decide +kernel)) ggX8_can_X8_allIsSeen
theorem dX8_can_0 : decode cX8_can 0 = .ok (.aload_n 0, 1) := by decide +kernel
theorem dX8_can_1 : decode cX8_can 1 = .ok (.iload_n 1, 1) := by decide +kernel
theorem dX8_can_2 : decode cX8_can 2 = .ok (.i2l, 1) := by decide +kernel
theorem dX8_can_3 : decode cX8_can 3 = .ok (.invokevirtual 85, 3) := by decide +kernel
theorem dX8_can_6 : decode cX8_can 6 = .ok (.ifCond .eq 12, 3) := by decide +kernel
theorem dX8_can_9 : decode cX8_can 9 = .ok (.iload_n 2, 1) := by decide +kernel
theorem dX8_can_10 : decode cX8_can 10 = .ok (.i2l, 1) := by decide +kernel
theorem dX8_can_11 : decode cX8_can 11 = .ok (.iconst 2, 1) := by decide +kernel
theorem dX8_can_12 : decode cX8_can 12 = .ok (.invokestatic 73, 3) := by decide +kernel
theorem dX8_can_15 : decode cX8_can 15 = .ok (.ifCond .ne 5, 3) := by decide +kernel
theorem dX8_can_18 : decode cX8_can 18 = .ok (.iconst (-1), 1) := by decide +kernel
theorem dX8_can_19 : decode cX8_can 19 = .ok (.ireturn, 1) := by decide +kernel
theorem dX8_can_20 : decode cX8_can 20 = .ok (.iconst 0, 1) := by decide +kernel
theorem dX8_can_21 : decode cX8_can 21 = .ok (.istore_n 3, 1) := by decide +kernel
theorem dX8_can_22 : decode cX8_can 22 = .ok (.bipush (-5), 2) := by decide +kernel
theorem dX8_can_24 : decode cX8_can 24 = .ok (.istore 4, 2) := by decide +kernel
theorem dX8_can_26 : decode cX8_can 26 = .ok (.bipush 9, 2) := by decide +kernel
theorem dX8_can_28 : decode cX8_can 28 = .ok (.istore 5, 2) := by decide +kernel
theorem dX8_can_30 : decode cX8_can 30 = .ok (.iload 5, 2) := by decide +kernel
theorem dX8_can_32 : decode cX8_can 32 = .ok (.ifCond .lt 45, 3) := by decide +kernel
theorem dX8_can_35 : decode cX8_can 35 = .ok (.aload_n 0, 1) := by decide +kernel
theorem dX8_can_36 : decode cX8_can 36 = .ok (.getfield 22, 3) := by decide +kernel
theorem dX8_can_39 : decode cX8_can 39 = .ok (.aload_n 0, 1) := by decide +kernel
theorem dX8_can_40 : decode cX8_can 40 = .ok (.getfield 17, 3) := by decide +kernel
theorem dX8_can_43 : decode cX8_can 43 = .ok (.invokevirtual 189, 3) := by decide +kernel
theorem dX8_can_46 : decode cX8_can 46 = .ok (.aload_n 0, 1) := by decide +kernel
theorem dX8_can_47 : decode cX8_can 47 = .ok (.getfield 22, 3) := by decide +kernel
theorem dX8_can_50 : decode cX8_can 50 = .ok (.getfield 99, 3) := by decide +kernel
theorem dX8_can_53 : decode cX8_can 53 = .ok (.iload_n 1, 1) := by decide +kernel
theorem dX8_can_54 : decode cX8_can 54 = .ok (.iload 5, 2) := by decide +kernel
theorem dX8_can_56 : decode cX8_can 56 = .ok (.iastore, 1) := by decide +kernel
theorem dX8_can_57 : decode cX8_can 57 = .ok (.aload_n 0, 1) := by decide +kernel
theorem dX8_can_58 : decode cX8_can 58 = .ok (.invokevirtual 225, 3) := by decide +kernel
theorem dX8_can_61 : decode cX8_can 61 = .ok (.ifCond .eq 10, 3) := by decide +kernel
theorem dX8_can_64 : decode cX8_can 64 = .ok (.iinc 3 1, 3) := by decide +kernel
theorem dX8_can_67 : decode cX8_can 67 = .ok (.iload 5, 2) := by decide +kernel
theorem dX8_can_69 : decode cX8_can 69 = .ok (.istore 4, 2) := by decide +kernel
theorem dX8_can_71 : decode cX8_can 71 = .ok (.iinc 5 (-1), 3) := by decide +kernel
theorem dX8_can_74 : decode cX8_can 74 = .ok (.goto (-44), 3) := by decide +kernel
theorem dX8_can_77 : decode cX8_can 77 = .ok (.iload_n 2, 1) := by decide +kernel
theorem dX8_can_78 : decode cX8_can 78 = .ok (.ifCond .ne 7, 3) := by decide +kernel
theorem dX8_can_81 : decode cX8_can 81 = .ok (.iload_n 3, 1) := by decide +kernel
theorem dX8_can_82 : decode cX8_can 82 = .ok (.goto 5, 3) := by decide +kernel
theorem dX8_can_85 : decode cX8_can 85 = .ok (.iload 4, 2) := by decide +kernel
theorem dX8_can_87 : decode cX8_can 87 = .ok (.ireturn, 1) := by decide +kernel
set_option maxRecDepth 20000 in
theorem ggX8_odds_X8_isMaster : GoodIn wsX8_odds wsX8_isMaster := goodIn_r _ [9, 3, 10, 11, 12, 8, 13, 93, 94, 95, 96, 97, 98, 99, 100, 101, 102, 103, 104, 105, 106, 107, 108, 109, 110, 111, 112, 113, 114, 115, 116, 117, 118, 119, 120, 121] (by decide +kernel) (by decide +kernel)
set_option maxRecDepth 20000 in
theorem gX8_odds_X8_isMaster : GoodIn wsX8_odds (wsV RX8 85 RX8 yX8_isMaster wsX8_isMaster) := goodIn_app (goodIn_of _ (by decide +kernel)) ggX8_odds_X8_isMaster
set_option maxRecDepth 20000 in
theorem ggX8_odds_X8_within : GoodIn wsX8_odds wsX8_within := goodIn_r _ [13] (by decide +kernel) (by decide +kernel)
set_option maxRecDepth 20000 in
theorem gX8_odds_X8_within : GoodIn wsX8_odds (va_wsS RX8 73 yX8_within wsX8_within) := goodIn_app (goodIn_of _ (by decide +kernel)) ggX8_odds_X8_within
set_option maxRecDepth 20000 in
theorem ggX8_odds_X1_copies : GoodIn wsX8_odds wsX1_copies := goodIn_r _ [18, 19, 20, 21, 22, 23, 24, 25, 26, 27, 28, 29, 30, 31, 32, 33, 8, 34, 35, 36, 37, 38, 39, 40, 41, 42, 105, 106, 107, 108, 109, 110, 111, 112, 113, 114, 115, 116, 117, 118, 119, 120, 121] (by decide +kernel) (by decide +kernel)
set_option maxRecDepth 20000 in
theorem gX8_odds_X1_copies : GoodIn wsX8_odds (wsV RX8 189 RX1 yX1_copies wsX1_copies) := goodIn_app (goodIn_of _ (by decide +kernel)) ggX8_odds_X1_copies
set_option maxRecDepth 20000 in
theorem ggX8_odds_X1_rings : GoodIn wsX8_odds wsX1_rings := goodIn_r _ [46, 29, 27, 105, 106, 107, 108, 109, 110, 111, 112, 113, 114, 115, 116, 117, 118, 119, 120, 121] (by decide +kernel) (by decide +kernel)
set_option maxRecDepth 20000 in
theorem gX8_odds_X1_rings : GoodIn wsX8_odds (wsV RX8 129 RX1 yX1_rings wsX1_rings) := goodIn_app (goodIn_of _ (by decide +kernel)) ggX8_odds_X1_rings
set_option maxRecDepth 20000 in
theorem ggX8_odds_X1_gives : GoodIn wsX8_odds wsX1_gives := goodIn_r _ [50, 22, 51, 52, 53, 17, 54, 55, 56, 57, 58, 29, 59, 60, 61, 62, 28, 63, 64, 65, 66, 67, 68, 69, 70, 24, 23, 71, 72, 73, 74, 21, 20, 19, 25, 31, 26, 75, 76, 77, 78, 79, 80, 37, 81, 32, 82, 83, 84, 85, 86, 87, 88, 89, 105, 106, 107, 108, 109, 110, 111, 112, 113, 114, 115, 116, 117, 118, 119, 120, 121, 122, 123, 124] (by decide +kernel) (by decide +kernel)
set_option maxRecDepth 20000 in
theorem gX8_odds_X1_gives : GoodIn wsX8_odds (wsV RX8 230 RX1 yX1_gives wsX1_gives) := goodIn_app (goodIn_of _ (by decide +kernel)) ggX8_odds_X1_gives
set_option maxRecDepth 20000 in
theorem ggX8_odds_X8_lowest : GoodIn wsX8_odds wsX8_lowest := goodIn_r _ [92] (by decide +kernel) (by decide +kernel)
set_option maxRecDepth 20000 in
theorem gX8_odds_X8_lowest : GoodIn wsX8_odds (va_wsS RX8 233 yX8_lowest wsX8_lowest) := goodIn_app (goodIn_of _ (by decide +kernel)) ggX8_odds_X8_lowest
theorem dX8_odds_0 : decode cX8_odds 0 = .ok (.aload_n 0, 1) := by decide +kernel
theorem dX8_odds_1 : decode cX8_odds 1 = .ok (.iload_n 1, 1) := by decide +kernel
theorem dX8_odds_2 : decode cX8_odds 2 = .ok (.i2l, 1) := by decide +kernel
theorem dX8_odds_3 : decode cX8_odds 3 = .ok (.invokevirtual 85, 3) := by decide +kernel
theorem dX8_odds_6 : decode cX8_odds 6 = .ok (.ifCond .eq 12, 3) := by decide +kernel
theorem dX8_odds_9 : decode cX8_odds 9 = .ok (.iload_n 2, 1) := by decide +kernel
theorem dX8_odds_10 : decode cX8_odds 10 = .ok (.i2l, 1) := by decide +kernel
theorem dX8_odds_11 : decode cX8_odds 11 = .ok (.iconst 2, 1) := by decide +kernel
theorem dX8_odds_12 : decode cX8_odds 12 = .ok (.invokestatic 73, 3) := by decide +kernel
theorem dX8_odds_15 : decode cX8_odds 15 = .ok (.ifCond .ne 7, 3) := by decide +kernel
theorem dX8_odds_18 : decode cX8_odds 18 = .ok (.ldc2_w 228, 3) := by decide +kernel
theorem dX8_odds_21 : decode cX8_odds 21 = .ok (.lreturn, 1) := by decide +kernel
theorem dX8_odds_22 : decode cX8_odds 22 = .ok (.iconst 0, 1) := by decide +kernel
theorem dX8_odds_23 : decode cX8_odds 23 = .ok (.istore_n 3, 1) := by decide +kernel
theorem dX8_odds_24 : decode cX8_odds 24 = .ok (.iconst 0, 1) := by decide +kernel
theorem dX8_odds_25 : decode cX8_odds 25 = .ok (.istore 4, 2) := by decide +kernel
theorem dX8_odds_27 : decode cX8_odds 27 = .ok (.iload 4, 2) := by decide +kernel
theorem dX8_odds_29 : decode cX8_odds 29 = .ok (.bipush 10, 2) := by decide +kernel
theorem dX8_odds_31 : decode cX8_odds 31 = .ok (.if_icmp .ge 54, 3) := by decide +kernel
theorem dX8_odds_34 : decode cX8_odds 34 = .ok (.aload_n 0, 1) := by decide +kernel
theorem dX8_odds_35 : decode cX8_odds 35 = .ok (.getfield 22, 3) := by decide +kernel
theorem dX8_odds_38 : decode cX8_odds 38 = .ok (.aload_n 0, 1) := by decide +kernel
theorem dX8_odds_39 : decode cX8_odds 39 = .ok (.getfield 17, 3) := by decide +kernel
theorem dX8_odds_42 : decode cX8_odds 42 = .ok (.invokevirtual 189, 3) := by decide +kernel
theorem dX8_odds_45 : decode cX8_odds 45 = .ok (.aload_n 0, 1) := by decide +kernel
theorem dX8_odds_46 : decode cX8_odds 46 = .ok (.getfield 22, 3) := by decide +kernel
theorem dX8_odds_49 : decode cX8_odds 49 = .ok (.iload 4, 2) := by decide +kernel
theorem dX8_odds_51 : decode cX8_odds 51 = .ok (.invokevirtual 129, 3) := by decide +kernel
theorem dX8_odds_54 : decode cX8_odds 54 = .ok (.pop, 1) := by decide +kernel
theorem dX8_odds_55 : decode cX8_odds 55 = .ok (.aload_n 0, 1) := by decide +kernel
theorem dX8_odds_56 : decode cX8_odds 56 = .ok (.getfield 22, 3) := by decide +kernel
theorem dX8_odds_59 : decode cX8_odds 59 = .ok (.invokevirtual 230, 3) := by decide +kernel
theorem dX8_odds_62 : decode cX8_odds 62 = .ok (.aload_n 0, 1) := by decide +kernel
theorem dX8_odds_63 : decode cX8_odds 63 = .ok (.getfield 22, 3) := by decide +kernel
theorem dX8_odds_66 : decode cX8_odds 66 = .ok (.getfield 105, 3) := by decide +kernel
theorem dX8_odds_69 : decode cX8_odds 69 = .ok (.iload_n 1, 1) := by decide +kernel
theorem dX8_odds_70 : decode cX8_odds 70 = .ok (.iaload, 1) := by decide +kernel
theorem dX8_odds_71 : decode cX8_odds 71 = .ok (.bipush (-5), 2) := by decide +kernel
theorem dX8_odds_73 : decode cX8_odds 73 = .ok (.if_icmp .eq 6, 3) := by decide +kernel
theorem dX8_odds_76 : decode cX8_odds 76 = .ok (.iinc 3 1, 3) := by decide +kernel
theorem dX8_odds_79 : decode cX8_odds 79 = .ok (.iinc 4 1, 3) := by decide +kernel
theorem dX8_odds_82 : decode cX8_odds 82 = .ok (.goto (-55), 3) := by decide +kernel
theorem dX8_odds_85 : decode cX8_odds 85 = .ok (.iload_n 3, 1) := by decide +kernel
theorem dX8_odds_86 : decode cX8_odds 86 = .ok (.bipush 10, 2) := by decide +kernel
theorem dX8_odds_88 : decode cX8_odds 88 = .ok (.iload_n 2, 1) := by decide +kernel
theorem dX8_odds_89 : decode cX8_odds 89 = .ok (.invokestatic 233, 3) := by decide +kernel
theorem dX8_odds_92 : decode cX8_odds 92 = .ok (.lreturn, 1) := by decide +kernel
set_option maxRecDepth 20000 in
theorem ggX8_mean_X8_within : GoodIn wsX8_mean wsX8_within := goodIn_r _ [9] (by decide +kernel) (by decide +kernel)
set_option maxRecDepth 20000 in
theorem gX8_mean_X8_within : GoodIn wsX8_mean (va_wsS RX8 73 yX8_within wsX8_within) := goodIn_app (goodIn_of _ (by decide +kernel)) ggX8_mean_X8_within
set_option maxRecDepth 20000 in
theorem ggX8_mean_X1_copies : GoodIn wsX8_mean wsX1_copies := goodIn_r _ [14, 15, 16, 17, 18, 19, 20, 21, 22, 23, 24, 25, 26, 27, 28, 29, 8, 30, 31, 32, 33, 34, 35, 36, 37, 38, 122, 123, 124, 125, 126, 127, 128, 129, 130, 131, 132, 133, 134, 135, 136, 137, 138] (by decide +kernel) (by decide +kernel)
set_option maxRecDepth 20000 in
theorem gX8_mean_X1_copies : GoodIn wsX8_mean (wsV RX8 189 RX1 yX1_copies wsX1_copies) := goodIn_app (goodIn_of _ (by decide +kernel)) ggX8_mean_X1_copies
set_option maxRecDepth 20000 in
theorem ggX8_mean_X1_goes : GoodIn wsX8_mean wsX1_goes := goodIn_r _ [42, 24, 20, 43, 26, 25, 44, 32, 33, 34, 27, 45, 46, 47, 13, 48, 18, 49, 50, 51, 52, 53, 54, 55, 56, 57, 58, 59, 60, 61, 62, 63, 64, 65, 66, 67, 68, 19, 69, 70, 71, 72, 17, 16, 15, 21, 22, 73, 74, 75, 76, 77, 78, 79, 28, 80, 81, 82, 83, 84, 85, 86, 87, 88, 89, 90, 91, 92, 93, 94, 95, 96, 97, 98, 99, 100, 101, 102, 103, 104, 105, 106, 122, 123, 124, 125, 126, 127, 128, 129, 130, 131, 132, 133, 134, 135, 136, 137, 138, 139, 140, 141] (by decide +kernel) (by decide +kernel)
set_option maxRecDepth 20000 in
theorem gX8_mean_X1_goes : GoodIn wsX8_mean (wsV RX8 185 RX1 yX1_goes wsX1_goes) := goodIn_app (goodIn_of _ (by decide +kernel)) ggX8_mean_X1_goes
set_option maxRecDepth 20000 in
theorem ggX8_mean_X8_lowest : GoodIn wsX8_mean wsX8_lowest := goodIn_r _ [109] (by decide +kernel) (by decide +kernel)
set_option maxRecDepth 20000 in
theorem gX8_mean_X8_lowest : GoodIn wsX8_mean (va_wsS RX8 233 yX8_lowest wsX8_lowest) := goodIn_app (goodIn_of _ (by decide +kernel)) ggX8_mean_X8_lowest
theorem dX8_mean_0 : decode cX8_mean 0 = .ok (.iload_n 1, 1) := by decide +kernel
theorem dX8_mean_1 : decode cX8_mean 1 = .ok (.i2l, 1) := by decide +kernel
theorem dX8_mean_2 : decode cX8_mean 2 = .ok (.bipush 61, 2) := by decide +kernel
theorem dX8_mean_4 : decode cX8_mean 4 = .ok (.invokestatic 73, 3) := by decide +kernel
theorem dX8_mean_7 : decode cX8_mean 7 = .ok (.ifCond .eq 22, 3) := by decide +kernel
theorem dX8_mean_10 : decode cX8_mean 10 = .ok (.iload_n 2, 1) := by decide +kernel
theorem dX8_mean_11 : decode cX8_mean 11 = .ok (.i2l, 1) := by decide +kernel
theorem dX8_mean_12 : decode cX8_mean 12 = .ok (.iconst 2, 1) := by decide +kernel
theorem dX8_mean_13 : decode cX8_mean 13 = .ok (.invokestatic 73, 3) := by decide +kernel
theorem dX8_mean_16 : decode cX8_mean 16 = .ok (.ifCond .eq 13, 3) := by decide +kernel
theorem dX8_mean_19 : decode cX8_mean 19 = .ok (.aload_n 0, 1) := by decide +kernel
theorem dX8_mean_20 : decode cX8_mean 20 = .ok (.getfield 17, 3) := by decide +kernel
theorem dX8_mean_23 : decode cX8_mean 23 = .ok (.getfield 77, 3) := by decide +kernel
theorem dX8_mean_26 : decode cX8_mean 26 = .ok (.ifCond .ne 7, 3) := by decide +kernel
theorem dX8_mean_29 : decode cX8_mean 29 = .ok (.ldc2_w 228, 3) := by decide +kernel
theorem dX8_mean_32 : decode cX8_mean 32 = .ok (.lreturn, 1) := by decide +kernel
theorem dX8_mean_33 : decode cX8_mean 33 = .ok (.aload_n 0, 1) := by decide +kernel
theorem dX8_mean_34 : decode cX8_mean 34 = .ok (.getfield 22, 3) := by decide +kernel
theorem dX8_mean_37 : decode cX8_mean 37 = .ok (.aload_n 0, 1) := by decide +kernel
theorem dX8_mean_38 : decode cX8_mean 38 = .ok (.getfield 17, 3) := by decide +kernel
theorem dX8_mean_41 : decode cX8_mean 41 = .ok (.invokevirtual 189, 3) := by decide +kernel
theorem dX8_mean_44 : decode cX8_mean 44 = .ok (.aload_n 0, 1) := by decide +kernel
theorem dX8_mean_45 : decode cX8_mean 45 = .ok (.getfield 22, 3) := by decide +kernel
theorem dX8_mean_48 : decode cX8_mean 48 = .ok (.iload_n 1, 1) := by decide +kernel
theorem dX8_mean_49 : decode cX8_mean 49 = .ok (.invokevirtual 185, 3) := by decide +kernel
theorem dX8_mean_52 : decode cX8_mean 52 = .ok (.iconst 0, 1) := by decide +kernel
theorem dX8_mean_53 : decode cX8_mean 53 = .ok (.istore_n 3, 1) := by decide +kernel
theorem dX8_mean_54 : decode cX8_mean 54 = .ok (.iconst 0, 1) := by decide +kernel
theorem dX8_mean_55 : decode cX8_mean 55 = .ok (.istore 4, 2) := by decide +kernel
theorem dX8_mean_57 : decode cX8_mean 57 = .ok (.iload 4, 2) := by decide +kernel
theorem dX8_mean_59 : decode cX8_mean 59 = .ok (.aload_n 0, 1) := by decide +kernel
theorem dX8_mean_60 : decode cX8_mean 60 = .ok (.getfield 22, 3) := by decide +kernel
theorem dX8_mean_63 : decode cX8_mean 63 = .ok (.getfield 77, 3) := by decide +kernel
theorem dX8_mean_66 : decode cX8_mean 66 = .ok (.if_icmp .ge 22, 3) := by decide +kernel
theorem dX8_mean_69 : decode cX8_mean 69 = .ok (.iload_n 3, 1) := by decide +kernel
theorem dX8_mean_70 : decode cX8_mean 70 = .ok (.aload_n 0, 1) := by decide +kernel
theorem dX8_mean_71 : decode cX8_mean 71 = .ok (.getfield 22, 3) := by decide +kernel
theorem dX8_mean_74 : decode cX8_mean 74 = .ok (.getfield 114, 3) := by decide +kernel
theorem dX8_mean_77 : decode cX8_mean 77 = .ok (.iload 4, 2) := by decide +kernel
theorem dX8_mean_79 : decode cX8_mean 79 = .ok (.iaload, 1) := by decide +kernel
theorem dX8_mean_80 : decode cX8_mean 80 = .ok (.iadd, 1) := by decide +kernel
theorem dX8_mean_81 : decode cX8_mean 81 = .ok (.istore_n 3, 1) := by decide +kernel
theorem dX8_mean_82 : decode cX8_mean 82 = .ok (.iinc 4 1, 3) := by decide +kernel
theorem dX8_mean_85 : decode cX8_mean 85 = .ok (.goto (-28), 3) := by decide +kernel
theorem dX8_mean_88 : decode cX8_mean 88 = .ok (.iload_n 3, 1) := by decide +kernel
theorem dX8_mean_89 : decode cX8_mean 89 = .ok (.aload_n 0, 1) := by decide +kernel
theorem dX8_mean_90 : decode cX8_mean 90 = .ok (.getfield 22, 3) := by decide +kernel
theorem dX8_mean_93 : decode cX8_mean 93 = .ok (.getfield 77, 3) := by decide +kernel
theorem dX8_mean_96 : decode cX8_mean 96 = .ok (.iload_n 2, 1) := by decide +kernel
theorem dX8_mean_97 : decode cX8_mean 97 = .ok (.invokestatic 233, 3) := by decide +kernel
theorem dX8_mean_100 : decode cX8_mean 100 = .ok (.lreturn, 1) := by decide +kernel
set_option maxRecDepth 20000 in
theorem ggX8_plan_X4_empties : GoodIn wsX8_plan wsX4_empties := goodIn_r _ [7, 8, 50, 51, 52, 53] (by decide +kernel) (by decide +kernel)
set_option maxRecDepth 20000 in
theorem gX8_plan_X4_empties : GoodIn wsX8_plan (wsV RX8 214 RX4 yX4_empties wsX4_empties) := goodIn_app (goodIn_of _ (by decide +kernel)) ggX8_plan_X4_empties
set_option maxRecDepth 20000 in
theorem ggX8_plan_X8_isPlannable : GoodIn wsX8_plan wsX8_isPlannable := goodIn_r _ [13, 14, 15, 12, 16, 17, 18, 19, 20, 21, 22, 35, 36, 37, 38, 39, 40, 41, 42, 43, 44, 45, 46, 54, 55, 56, 57, 58, 59, 60, 61, 62, 63, 64, 65, 66, 67, 68, 69, 70] (by decide +kernel) (by decide +kernel)
set_option maxRecDepth 20000 in
theorem gX8_plan_X8_isPlannable : GoodIn wsX8_plan (wsV RX8 240 RX8 yX8_isPlannable wsX8_isPlannable) := goodIn_app (goodIn_of _ (by decide +kernel)) ggX8_plan_X8_isPlannable
set_option maxRecDepth 20000 in
theorem ggX8_plan_X4_isFull : GoodIn wsX8_plan wsX4_isFull := goodIn_r _ [26, 8, 27, 50, 51, 52, 53] (by decide +kernel) (by decide +kernel)
set_option maxRecDepth 20000 in
theorem gX8_plan_X4_isFull : GoodIn wsX8_plan (wsV RX8 219 RX4 yX4_isFull wsX4_isFull) := goodIn_app (goodIn_of _ (by decide +kernel)) ggX8_plan_X4_isFull
set_option maxRecDepth 20000 in
theorem ggX8_plan_X4_adds : GoodIn wsX8_plan wsX4_adds := goodIn_r _ [31, 27, 8, 32, 33, 34, 24, 25, 6, 26, 50, 51, 52, 53] (by decide +kernel) (by decide +kernel)
set_option maxRecDepth 20000 in
theorem gX8_plan_X4_adds : GoodIn wsX8_plan (wsV RX8 223 RX4 yX4_adds wsX4_adds) := goodIn_app (goodIn_of _ (by decide +kernel)) ggX8_plan_X4_adds
theorem dX8_plan_0 : decode cX8_plan 0 = .ok (.iload_n 1, 1) := by decide +kernel
theorem dX8_plan_1 : decode cX8_plan 1 = .ok (.iconst (-1), 1) := by decide +kernel
theorem dX8_plan_2 : decode cX8_plan 2 = .ok (.if_icmp .ne 14, 3) := by decide +kernel
theorem dX8_plan_5 : decode cX8_plan 5 = .ok (.aload_n 0, 1) := by decide +kernel
theorem dX8_plan_6 : decode cX8_plan 6 = .ok (.getfield 31, 3) := by decide +kernel
theorem dX8_plan_9 : decode cX8_plan 9 = .ok (.getfield 237, 3) := by decide +kernel
theorem dX8_plan_12 : decode cX8_plan 12 = .ok (.invokevirtual 214, 3) := by decide +kernel
theorem dX8_plan_15 : decode cX8_plan 15 = .ok (.ireturn, 1) := by decide +kernel
theorem dX8_plan_16 : decode cX8_plan 16 = .ok (.aload_n 0, 1) := by decide +kernel
theorem dX8_plan_17 : decode cX8_plan 17 = .ok (.iload_n 1, 1) := by decide +kernel
theorem dX8_plan_18 : decode cX8_plan 18 = .ok (.iload_n 2, 1) := by decide +kernel
theorem dX8_plan_19 : decode cX8_plan 19 = .ok (.invokevirtual 240, 3) := by decide +kernel
theorem dX8_plan_22 : decode cX8_plan 22 = .ok (.ifCond .ne 5, 3) := by decide +kernel
theorem dX8_plan_25 : decode cX8_plan 25 = .ok (.iconst (-1), 1) := by decide +kernel
theorem dX8_plan_26 : decode cX8_plan 26 = .ok (.ireturn, 1) := by decide +kernel
theorem dX8_plan_27 : decode cX8_plan 27 = .ok (.aload_n 0, 1) := by decide +kernel
theorem dX8_plan_28 : decode cX8_plan 28 = .ok (.getfield 31, 3) := by decide +kernel
theorem dX8_plan_31 : decode cX8_plan 31 = .ok (.getfield 237, 3) := by decide +kernel
theorem dX8_plan_34 : decode cX8_plan 34 = .ok (.invokevirtual 219, 3) := by decide +kernel
theorem dX8_plan_37 : decode cX8_plan 37 = .ok (.ifCond .eq 8, 3) := by decide +kernel
theorem dX8_plan_40 : decode cX8_plan 40 = .ok (.bipush (-4), 2) := by decide +kernel
theorem dX8_plan_42 : decode cX8_plan 42 = .ok (.goto 16, 3) := by decide +kernel
theorem dX8_plan_45 : decode cX8_plan 45 = .ok (.aload_n 0, 1) := by decide +kernel
theorem dX8_plan_46 : decode cX8_plan 46 = .ok (.getfield 31, 3) := by decide +kernel
theorem dX8_plan_49 : decode cX8_plan 49 = .ok (.getfield 237, 3) := by decide +kernel
theorem dX8_plan_52 : decode cX8_plan 52 = .ok (.iload_n 1, 1) := by decide +kernel
theorem dX8_plan_53 : decode cX8_plan 53 = .ok (.iload_n 2, 1) := by decide +kernel
theorem dX8_plan_54 : decode cX8_plan 54 = .ok (.iconst 0, 1) := by decide +kernel
theorem dX8_plan_55 : decode cX8_plan 55 = .ok (.invokevirtual 223, 3) := by decide +kernel
theorem dX8_plan_58 : decode cX8_plan 58 = .ok (.ireturn, 1) := by decide +kernel
set_option maxRecDepth 20000 in
theorem ggX8_ends_X8_within : GoodIn wsX8_ends wsX8_within := goodIn_r _ [13] (by decide +kernel) (by decide +kernel)
set_option maxRecDepth 20000 in
theorem gX8_ends_X8_within : GoodIn wsX8_ends (va_wsS RX8 73 yX8_within wsX8_within) := goodIn_app (goodIn_of _ (by decide +kernel)) ggX8_ends_X8_within
set_option maxRecDepth 20000 in
theorem ggX8_ends_X1_copies : GoodIn wsX8_ends wsX1_copies := goodIn_r _ [18, 19, 20, 21, 22, 23, 24, 25, 26, 27, 28, 29, 30, 31, 32, 33, 12, 34, 35, 36, 37, 38, 39, 40, 41, 42, 139, 140, 141, 142, 143, 144, 145, 146, 147, 148, 149, 150, 151, 152, 153, 154, 155] (by decide +kernel) (by decide +kernel)
set_option maxRecDepth 20000 in
theorem gX8_ends_X1_copies : GoodIn wsX8_ends (wsV RX8 189 RX1 yX1_copies wsX1_copies) := goodIn_app (goodIn_of _ (by decide +kernel)) ggX8_ends_X1_copies
set_option maxRecDepth 20000 in
theorem ggX8_ends_X8_carriesOut : GoodIn wsX8_ends wsX8_carriesOut := goodIn_r _ [46, 1, 47, 48, 49, 50, 17, 51, 28, 24, 52, 30, 29, 53, 36, 37, 38, 31, 54, 55, 56, 57, 22, 58, 59, 60, 61, 62, 63, 64, 65, 66, 67, 68, 69, 70, 71, 72, 73, 74, 75, 76, 77, 23, 78, 79, 80, 81, 21, 20, 19, 25, 26, 82, 83, 84, 85, 86, 87, 88, 32, 89, 90, 91, 92, 93, 94, 95, 96, 97, 98, 99, 100, 101, 102, 103, 104, 105, 106, 107, 108, 109, 110, 111, 112, 113, 114, 115, 116, 117, 118, 119, 27, 120, 121, 122, 123, 124, 125, 126, 127, 128, 129, 130, 131, 139, 140, 141, 142, 143, 144, 145, 146, 147, 148, 149, 150, 151, 152, 153, 154, 155, 156, 157, 158] (by decide +kernel) (by decide +kernel)
set_option maxRecDepth 20000 in
theorem gX8_ends_X8_carriesOut : GoodIn wsX8_ends (wsV RX8 251 RX8 yX8_carriesOut wsX8_carriesOut) := goodIn_app (goodIn_of _ (by decide +kernel)) ggX8_ends_X8_carriesOut
theorem dX8_ends_0 : decode cX8_ends 0 = .ok (.iload_n 1, 1) := by decide +kernel
theorem dX8_ends_1 : decode cX8_ends 1 = .ok (.i2l, 1) := by decide +kernel
theorem dX8_ends_2 : decode cX8_ends 2 = .ok (.iconst 2, 1) := by decide +kernel
theorem dX8_ends_3 : decode cX8_ends 3 = .ok (.invokestatic 73, 3) := by decide +kernel
theorem dX8_ends_6 : decode cX8_ends 6 = .ok (.ifCond .ne 5, 3) := by decide +kernel
theorem dX8_ends_9 : decode cX8_ends 9 = .ok (.iconst (-1), 1) := by decide +kernel
theorem dX8_ends_10 : decode cX8_ends 10 = .ok (.ireturn, 1) := by decide +kernel
theorem dX8_ends_11 : decode cX8_ends 11 = .ok (.aload_n 0, 1) := by decide +kernel
theorem dX8_ends_12 : decode cX8_ends 12 = .ok (.getfield 22, 3) := by decide +kernel
theorem dX8_ends_15 : decode cX8_ends 15 = .ok (.aload_n 0, 1) := by decide +kernel
theorem dX8_ends_16 : decode cX8_ends 16 = .ok (.getfield 17, 3) := by decide +kernel
theorem dX8_ends_19 : decode cX8_ends 19 = .ok (.invokevirtual 189, 3) := by decide +kernel
theorem dX8_ends_22 : decode cX8_ends 22 = .ok (.iconst 0, 1) := by decide +kernel
theorem dX8_ends_23 : decode cX8_ends 23 = .ok (.istore_n 2, 1) := by decide +kernel
theorem dX8_ends_24 : decode cX8_ends 24 = .ok (.iload_n 2, 1) := by decide +kernel
theorem dX8_ends_25 : decode cX8_ends 25 = .ok (.aload_n 0, 1) := by decide +kernel
theorem dX8_ends_26 : decode cX8_ends 26 = .ok (.getfield 31, 3) := by decide +kernel
theorem dX8_ends_29 : decode cX8_ends 29 = .ok (.getfield 237, 3) := by decide +kernel
theorem dX8_ends_32 : decode cX8_ends 32 = .ok (.getfield 244, 3) := by decide +kernel
theorem dX8_ends_35 : decode cX8_ends 35 = .ok (.if_icmp .ge 37, 3) := by decide +kernel
theorem dX8_ends_38 : decode cX8_ends 38 = .ok (.aload_n 0, 1) := by decide +kernel
theorem dX8_ends_39 : decode cX8_ends 39 = .ok (.aload_n 0, 1) := by decide +kernel
theorem dX8_ends_40 : decode cX8_ends 40 = .ok (.getfield 31, 3) := by decide +kernel
theorem dX8_ends_43 : decode cX8_ends 43 = .ok (.getfield 237, 3) := by decide +kernel
theorem dX8_ends_46 : decode cX8_ends 46 = .ok (.getfield 245, 3) := by decide +kernel
theorem dX8_ends_49 : decode cX8_ends 49 = .ok (.iload_n 2, 1) := by decide +kernel
theorem dX8_ends_50 : decode cX8_ends 50 = .ok (.iaload, 1) := by decide +kernel
theorem dX8_ends_51 : decode cX8_ends 51 = .ok (.aload_n 0, 1) := by decide +kernel
theorem dX8_ends_52 : decode cX8_ends 52 = .ok (.getfield 31, 3) := by decide +kernel
theorem dX8_ends_55 : decode cX8_ends 55 = .ok (.getfield 237, 3) := by decide +kernel
theorem dX8_ends_58 : decode cX8_ends 58 = .ok (.getfield 248, 3) := by decide +kernel
theorem dX8_ends_61 : decode cX8_ends 61 = .ok (.iload_n 2, 1) := by decide +kernel
theorem dX8_ends_62 : decode cX8_ends 62 = .ok (.iaload, 1) := by decide +kernel
theorem dX8_ends_63 : decode cX8_ends 63 = .ok (.invokevirtual 251, 3) := by decide +kernel
theorem dX8_ends_66 : decode cX8_ends 66 = .ok (.iinc 2 1, 3) := by decide +kernel
theorem dX8_ends_69 : decode cX8_ends 69 = .ok (.goto (-45), 3) := by decide +kernel
theorem dX8_ends_72 : decode cX8_ends 72 = .ok (.iload_n 1, 1) := by decide +kernel
theorem dX8_ends_73 : decode cX8_ends 73 = .ok (.ifCond .ne 13, 3) := by decide +kernel
theorem dX8_ends_76 : decode cX8_ends 76 = .ok (.aload_n 0, 1) := by decide +kernel
theorem dX8_ends_77 : decode cX8_ends 77 = .ok (.getfield 22, 3) := by decide +kernel
theorem dX8_ends_80 : decode cX8_ends 80 = .ok (.getfield 172, 3) := by decide +kernel
theorem dX8_ends_83 : decode cX8_ends 83 = .ok (.goto 10, 3) := by decide +kernel
theorem dX8_ends_86 : decode cX8_ends 86 = .ok (.aload_n 0, 1) := by decide +kernel
theorem dX8_ends_87 : decode cX8_ends 87 = .ok (.getfield 22, 3) := by decide +kernel
theorem dX8_ends_90 : decode cX8_ends 90 = .ok (.getfield 169, 3) := by decide +kernel
theorem dX8_ends_93 : decode cX8_ends 93 = .ok (.ireturn, 1) := by decide +kernel
set_option maxRecDepth 20000 in
theorem ggX8_book_X4_empties : GoodIn wsX8_book wsX4_empties := goodIn_r _ [7, 8, 46, 47, 48, 49] (by decide +kernel) (by decide +kernel)
set_option maxRecDepth 20000 in
theorem gX8_book_X4_empties : GoodIn wsX8_book (wsV RX8 214 RX4 yX4_empties wsX4_empties) := goodIn_app (goodIn_of _ (by decide +kernel)) ggX8_book_X4_empties
set_option maxRecDepth 20000 in
theorem ggX8_book_X8_isMaster : GoodIn wsX8_book wsX8_isMaster := goodIn_r _ [13, 14, 15, 16, 17, 12, 18, 31, 32, 33, 34, 35, 36, 37, 38, 39, 40, 41, 42, 50, 51, 52, 53, 54, 55, 56, 57, 58, 59, 60, 61, 62, 63, 64, 65, 66] (by decide +kernel) (by decide +kernel)
set_option maxRecDepth 20000 in
theorem gX8_book_X8_isMaster : GoodIn wsX8_book (wsV RX8 85 RX8 yX8_isMaster wsX8_isMaster) := goodIn_app (goodIn_of _ (by decide +kernel)) ggX8_book_X8_isMaster
set_option maxRecDepth 20000 in
theorem ggX8_book_X8_within : GoodIn wsX8_book wsX8_within := goodIn_r _ [18] (by decide +kernel) (by decide +kernel)
set_option maxRecDepth 20000 in
theorem gX8_book_X8_within : GoodIn wsX8_book (va_wsS RX8 73 yX8_within wsX8_within) := goodIn_app (goodIn_of _ (by decide +kernel)) ggX8_book_X8_within
set_option maxRecDepth 20000 in
theorem ggX8_book_X4_isFull : GoodIn wsX8_book wsX4_isFull := goodIn_r _ [22, 8, 23, 46, 47, 48, 49] (by decide +kernel) (by decide +kernel)
set_option maxRecDepth 20000 in
theorem gX8_book_X4_isFull : GoodIn wsX8_book (wsV RX8 219 RX4 yX4_isFull wsX4_isFull) := goodIn_app (goodIn_of _ (by decide +kernel)) ggX8_book_X4_isFull
set_option maxRecDepth 20000 in
theorem ggX8_book_X4_adds : GoodIn wsX8_book wsX4_adds := goodIn_r _ [27, 23, 8, 28, 29, 30, 20, 21, 6, 22, 46, 47, 48, 49] (by decide +kernel) (by decide +kernel)
set_option maxRecDepth 20000 in
theorem gX8_book_X4_adds : GoodIn wsX8_book (wsV RX8 223 RX4 yX4_adds wsX4_adds) := goodIn_app (goodIn_of _ (by decide +kernel)) ggX8_book_X4_adds
theorem dX8_book_0 : decode cX8_book 0 = .ok (.iload_n 1, 1) := by decide +kernel
theorem dX8_book_1 : decode cX8_book 1 = .ok (.iconst (-1), 1) := by decide +kernel
theorem dX8_book_2 : decode cX8_book 2 = .ok (.if_icmp .ne 14, 3) := by decide +kernel
theorem dX8_book_5 : decode cX8_book 5 = .ok (.aload_n 0, 1) := by decide +kernel
theorem dX8_book_6 : decode cX8_book 6 = .ok (.getfield 31, 3) := by decide +kernel
theorem dX8_book_9 : decode cX8_book 9 = .ok (.getfield 254, 3) := by decide +kernel
theorem dX8_book_12 : decode cX8_book 12 = .ok (.invokevirtual 214, 3) := by decide +kernel
theorem dX8_book_15 : decode cX8_book 15 = .ok (.ireturn, 1) := by decide +kernel
theorem dX8_book_16 : decode cX8_book 16 = .ok (.aload_n 0, 1) := by decide +kernel
theorem dX8_book_17 : decode cX8_book 17 = .ok (.iload_n 1, 1) := by decide +kernel
theorem dX8_book_18 : decode cX8_book 18 = .ok (.i2l, 1) := by decide +kernel
theorem dX8_book_19 : decode cX8_book 19 = .ok (.invokevirtual 85, 3) := by decide +kernel
theorem dX8_book_22 : decode cX8_book 22 = .ok (.ifCond .eq 13, 3) := by decide +kernel
theorem dX8_book_25 : decode cX8_book 25 = .ok (.iload_n 2, 1) := by decide +kernel
theorem dX8_book_26 : decode cX8_book 26 = .ok (.i2l, 1) := by decide +kernel
theorem dX8_book_27 : decode cX8_book 27 = .ok (.bipush 10, 2) := by decide +kernel
theorem dX8_book_29 : decode cX8_book 29 = .ok (.invokestatic 73, 3) := by decide +kernel
theorem dX8_book_32 : decode cX8_book 32 = .ok (.ifCond .ne 5, 3) := by decide +kernel
theorem dX8_book_35 : decode cX8_book 35 = .ok (.iconst (-1), 1) := by decide +kernel
theorem dX8_book_36 : decode cX8_book 36 = .ok (.ireturn, 1) := by decide +kernel
theorem dX8_book_37 : decode cX8_book 37 = .ok (.aload_n 0, 1) := by decide +kernel
theorem dX8_book_38 : decode cX8_book 38 = .ok (.getfield 31, 3) := by decide +kernel
theorem dX8_book_41 : decode cX8_book 41 = .ok (.getfield 254, 3) := by decide +kernel
theorem dX8_book_44 : decode cX8_book 44 = .ok (.invokevirtual 219, 3) := by decide +kernel
theorem dX8_book_47 : decode cX8_book 47 = .ok (.ifCond .eq 8, 3) := by decide +kernel
theorem dX8_book_50 : decode cX8_book 50 = .ok (.bipush (-4), 2) := by decide +kernel
theorem dX8_book_52 : decode cX8_book 52 = .ok (.goto 16, 3) := by decide +kernel
theorem dX8_book_55 : decode cX8_book 55 = .ok (.aload_n 0, 1) := by decide +kernel
theorem dX8_book_56 : decode cX8_book 56 = .ok (.getfield 31, 3) := by decide +kernel
theorem dX8_book_59 : decode cX8_book 59 = .ok (.getfield 254, 3) := by decide +kernel
theorem dX8_book_62 : decode cX8_book 62 = .ok (.iload_n 1, 1) := by decide +kernel
theorem dX8_book_63 : decode cX8_book 63 = .ok (.iload_n 2, 1) := by decide +kernel
theorem dX8_book_64 : decode cX8_book 64 = .ok (.iconst 0, 1) := by decide +kernel
theorem dX8_book_65 : decode cX8_book 65 = .ok (.invokevirtual 223, 3) := by decide +kernel
theorem dX8_book_68 : decode cX8_book 68 = .ok (.ireturn, 1) := by decide +kernel
theorem dX8_looked_0 : decode cX8_looked 0 = .ok (.iconst 0, 1) := by decide +kernel
theorem dX8_looked_1 : decode cX8_looked 1 = .ok (.istore_n 1, 1) := by decide +kernel
theorem dX8_looked_2 : decode cX8_looked 2 = .ok (.iload_n 1, 1) := by decide +kernel
theorem dX8_looked_3 : decode cX8_looked 3 = .ok (.aload_n 0, 1) := by decide +kernel
theorem dX8_looked_4 : decode cX8_looked 4 = .ok (.getfield 31, 3) := by decide +kernel
theorem dX8_looked_7 : decode cX8_looked 7 = .ok (.getfield 254, 3) := by decide +kernel
theorem dX8_looked_10 : decode cX8_looked 10 = .ok (.getfield 244, 3) := by decide +kernel
theorem dX8_looked_13 : decode cX8_looked 13 = .ok (.if_icmp .ge 46, 3) := by decide +kernel
theorem dX8_looked_16 : decode cX8_looked 16 = .ok (.aload_n 0, 1) := by decide +kernel
theorem dX8_looked_17 : decode cX8_looked 17 = .ok (.getfield 17, 3) := by decide +kernel
theorem dX8_looked_20 : decode cX8_looked 20 = .ok (.getfield 102, 3) := by decide +kernel
theorem dX8_looked_23 : decode cX8_looked 23 = .ok (.aload_n 0, 1) := by decide +kernel
theorem dX8_looked_24 : decode cX8_looked 24 = .ok (.getfield 31, 3) := by decide +kernel
theorem dX8_looked_27 : decode cX8_looked 27 = .ok (.getfield 254, 3) := by decide +kernel
theorem dX8_looked_30 : decode cX8_looked 30 = .ok (.getfield 245, 3) := by decide +kernel
theorem dX8_looked_33 : decode cX8_looked 33 = .ok (.iload_n 1, 1) := by decide +kernel
theorem dX8_looked_34 : decode cX8_looked 34 = .ok (.iaload, 1) := by decide +kernel
theorem dX8_looked_35 : decode cX8_looked 35 = .ok (.iaload, 1) := by decide +kernel
theorem dX8_looked_36 : decode cX8_looked 36 = .ok (.aload_n 0, 1) := by decide +kernel
theorem dX8_looked_37 : decode cX8_looked 37 = .ok (.getfield 31, 3) := by decide +kernel
theorem dX8_looked_40 : decode cX8_looked 40 = .ok (.getfield 254, 3) := by decide +kernel
theorem dX8_looked_43 : decode cX8_looked 43 = .ok (.getfield 248, 3) := by decide +kernel
theorem dX8_looked_46 : decode cX8_looked 46 = .ok (.iload_n 1, 1) := by decide +kernel
theorem dX8_looked_47 : decode cX8_looked 47 = .ok (.iaload, 1) := by decide +kernel
theorem dX8_looked_48 : decode cX8_looked 48 = .ok (.if_icmp .eq 5, 3) := by decide +kernel
theorem dX8_looked_51 : decode cX8_looked 51 = .ok (.iload_n 1, 1) := by decide +kernel
theorem dX8_looked_52 : decode cX8_looked 52 = .ok (.ireturn, 1) := by decide +kernel
theorem dX8_looked_53 : decode cX8_looked 53 = .ok (.iinc 1 1, 3) := by decide +kernel
theorem dX8_looked_56 : decode cX8_looked 56 = .ok (.goto (-54), 3) := by decide +kernel
theorem dX8_looked_59 : decode cX8_looked 59 = .ok (.bipush (-5), 2) := by decide +kernel
theorem dX8_looked_61 : decode cX8_looked 61 = .ok (.ireturn, 1) := by decide +kernel
set_option maxRecDepth 20000 in
theorem ggX8_judge_X8_within : GoodIn wsX8_judge wsX8_within := goodIn_r _ [9] (by decide +kernel) (by decide +kernel)
set_option maxRecDepth 20000 in
theorem gX8_judge_X8_within : GoodIn wsX8_judge (va_wsS RX8 73 yX8_within wsX8_within) := goodIn_app (goodIn_of _ (by decide +kernel)) ggX8_judge_X8_within
set_option maxRecDepth 20000 in
theorem ggX8_judge_X6_has : GoodIn wsX8_judge wsX6_has := goodIn_r _ [14, 15, 28, 29, 30] (by decide +kernel) (by decide +kernel)
set_option maxRecDepth 20000 in
theorem gX8_judge_X6_has : GoodIn wsX8_judge (wsV RX8 260 RX6 yX6_has wsX6_has) := goodIn_app (goodIn_of _ (by decide +kernel)) ggX8_judge_X6_has
theorem dX8_judge_0 : decode cX8_judge 0 = .ok (.iload_n 1, 1) := by decide +kernel
theorem dX8_judge_1 : decode cX8_judge 1 = .ok (.i2l, 1) := by decide +kernel
theorem dX8_judge_2 : decode cX8_judge 2 = .ok (.bipush 6, 2) := by decide +kernel
theorem dX8_judge_4 : decode cX8_judge 4 = .ok (.invokestatic 73, 3) := by decide +kernel
theorem dX8_judge_7 : decode cX8_judge 7 = .ok (.ifCond .ne 5, 3) := by decide +kernel
theorem dX8_judge_10 : decode cX8_judge 10 = .ok (.iconst (-1), 1) := by decide +kernel
theorem dX8_judge_11 : decode cX8_judge 11 = .ok (.ireturn, 1) := by decide +kernel
theorem dX8_judge_12 : decode cX8_judge 12 = .ok (.aload_n 0, 1) := by decide +kernel
theorem dX8_judge_13 : decode cX8_judge 13 = .ok (.getfield 67, 3) := by decide +kernel
theorem dX8_judge_16 : decode cX8_judge 16 = .ok (.iload_n 1, 1) := by decide +kernel
theorem dX8_judge_17 : decode cX8_judge 17 = .ok (.aaload, 1) := by decide +kernel
theorem dX8_judge_18 : decode cX8_judge 18 = .ok (.astore_n 3, 1) := by decide +kernel
theorem dX8_judge_19 : decode cX8_judge 19 = .ok (.aload_n 3, 1) := by decide +kernel
theorem dX8_judge_20 : decode cX8_judge 20 = .ok (.getfield 257, 3) := by decide +kernel
theorem dX8_judge_23 : decode cX8_judge 23 = .ok (.iconst (-1), 1) := by decide +kernel
theorem dX8_judge_24 : decode cX8_judge 24 = .ok (.if_icmp .eq 13, 3) := by decide +kernel
theorem dX8_judge_27 : decode cX8_judge 27 = .ok (.aload_n 3, 1) := by decide +kernel
theorem dX8_judge_28 : decode cX8_judge 28 = .ok (.getfield 257, 3) := by decide +kernel
theorem dX8_judge_31 : decode cX8_judge 31 = .ok (.ifCond .eq 6, 3) := by decide +kernel
theorem dX8_judge_34 : decode cX8_judge 34 = .ok (.bipush (-12), 2) := by decide +kernel
theorem dX8_judge_36 : decode cX8_judge 36 = .ok (.ireturn, 1) := by decide +kernel
theorem dX8_judge_37 : decode cX8_judge 37 = .ok (.iconst 0, 1) := by decide +kernel
theorem dX8_judge_38 : decode cX8_judge 38 = .ok (.istore 4, 2) := by decide +kernel
theorem dX8_judge_40 : decode cX8_judge 40 = .ok (.iload 4, 2) := by decide +kernel
theorem dX8_judge_42 : decode cX8_judge 42 = .ok (.bipush 10, 2) := by decide +kernel
theorem dX8_judge_44 : decode cX8_judge 44 = .ok (.if_icmp .ge 55, 3) := by decide +kernel
theorem dX8_judge_47 : decode cX8_judge 47 = .ok (.aload_n 3, 1) := by decide +kernel
theorem dX8_judge_48 : decode cX8_judge 48 = .ok (.iload_n 2, 1) := by decide +kernel
theorem dX8_judge_49 : decode cX8_judge 49 = .ok (.i2l, 1) := by decide +kernel
theorem dX8_judge_50 : decode cX8_judge 50 = .ok (.iload 4, 2) := by decide +kernel
theorem dX8_judge_52 : decode cX8_judge 52 = .ok (.i2l, 1) := by decide +kernel
theorem dX8_judge_53 : decode cX8_judge 53 = .ok (.ladd, 1) := by decide +kernel
theorem dX8_judge_54 : decode cX8_judge 54 = .ok (.invokevirtual 260, 3) := by decide +kernel
theorem dX8_judge_57 : decode cX8_judge 57 = .ok (.ifCond .ne 9, 3) := by decide +kernel
theorem dX8_judge_60 : decode cX8_judge 60 = .ok (.bipush 100, 2) := by decide +kernel
theorem dX8_judge_62 : decode cX8_judge 62 = .ok (.iload 4, 2) := by decide +kernel
theorem dX8_judge_64 : decode cX8_judge 64 = .ok (.iadd, 1) := by decide +kernel
theorem dX8_judge_65 : decode cX8_judge 65 = .ok (.ireturn, 1) := by decide +kernel
theorem dX8_judge_66 : decode cX8_judge 66 = .ok (.aload_n 3, 1) := by decide +kernel
theorem dX8_judge_67 : decode cX8_judge 67 = .ok (.getfield 263, 3) := by decide +kernel
theorem dX8_judge_70 : decode cX8_judge 70 = .ok (.iload_n 2, 1) := by decide +kernel
theorem dX8_judge_71 : decode cX8_judge 71 = .ok (.iload 4, 2) := by decide +kernel
theorem dX8_judge_73 : decode cX8_judge 73 = .ok (.iadd, 1) := by decide +kernel
theorem dX8_judge_74 : decode cX8_judge 74 = .ok (.laload, 1) := by decide +kernel
theorem dX8_judge_75 : decode cX8_judge 75 = .ok (.aload_n 0, 1) := by decide +kernel
theorem dX8_judge_76 : decode cX8_judge 76 = .ok (.getfield 17, 3) := by decide +kernel
theorem dX8_judge_79 : decode cX8_judge 79 = .ok (.getfield 132, 3) := by decide +kernel
theorem dX8_judge_82 : decode cX8_judge 82 = .ok (.iload 4, 2) := by decide +kernel
theorem dX8_judge_84 : decode cX8_judge 84 = .ok (.iaload, 1) := by decide +kernel
theorem dX8_judge_85 : decode cX8_judge 85 = .ok (.i2l, 1) := by decide +kernel
theorem dX8_judge_86 : decode cX8_judge 86 = .ok (.lcmp, 1) := by decide +kernel
theorem dX8_judge_87 : decode cX8_judge 87 = .ok (.ifCond .eq 6, 3) := by decide +kernel
theorem dX8_judge_90 : decode cX8_judge 90 = .ok (.iload 4, 2) := by decide +kernel
theorem dX8_judge_92 : decode cX8_judge 92 = .ok (.ireturn, 1) := by decide +kernel
theorem dX8_judge_93 : decode cX8_judge 93 = .ok (.iinc 4 1, 3) := by decide +kernel
theorem dX8_judge_96 : decode cX8_judge 96 = .ok (.goto (-56), 3) := by decide +kernel
theorem dX8_judge_99 : decode cX8_judge 99 = .ok (.bipush (-5), 2) := by decide +kernel
theorem dX8_judge_101 : decode cX8_judge 101 = .ok (.ireturn, 1) := by decide +kernel
set_option maxRecDepth 20000 in
theorem ggX8_image_X1_copies : GoodIn wsX8_image wsX1_copies := goodIn_r _ [11, 12, 13, 14, 15, 16, 17, 18, 19, 20, 21, 22, 23, 24, 25, 26, 27, 28, 29, 30, 31, 32, 33, 34, 35, 36, 66, 67, 68, 69, 70, 71, 72, 73, 74, 75, 76, 77, 78, 79, 80, 81, 82] (by decide +kernel) (by decide +kernel)
set_option maxRecDepth 20000 in
theorem gX8_image_X1_copies : GoodIn wsX8_image (wsV RX8 189 RX1 yX1_copies wsX1_copies) := goodIn_app (goodIn_of _ (by decide +kernel)) ggX8_image_X1_copies
set_option maxRecDepth 20000 in
theorem ggX8_image_X3_copies : GoodIn wsX8_image wsX3_copies := goodIn_r _ [41, 42, 43, 44, 45, 46, 47, 48, 49, 50, 51, 52, 53, 26, 27, 28, 29, 30, 31, 32, 33, 34, 35, 36, 83, 84, 85, 86, 87, 88, 89] (by decide +kernel) (by decide +kernel)
set_option maxRecDepth 20000 in
theorem gX8_image_X3_copies : GoodIn wsX8_image (wsV RX8 267 RX3 yX3_copies wsX3_copies) := goodIn_app (goodIn_of _ (by decide +kernel)) ggX8_image_X3_copies
theorem dX8_image_0 : decode cX8_image 0 = .ok (.aload_n 0, 1) := by decide +kernel
theorem dX8_image_1 : decode cX8_image 1 = .ok (.getfield 25, 3) := by decide +kernel
theorem dX8_image_4 : decode cX8_image 4 = .ok (.aload_n 0, 1) := by decide +kernel
theorem dX8_image_5 : decode cX8_image 5 = .ok (.getfield 17, 3) := by decide +kernel
theorem dX8_image_8 : decode cX8_image 8 = .ok (.invokevirtual 189, 3) := by decide +kernel
theorem dX8_image_11 : decode cX8_image 11 = .ok (.aload_n 0, 1) := by decide +kernel
theorem dX8_image_12 : decode cX8_image 12 = .ok (.getfield 35, 3) := by decide +kernel
theorem dX8_image_15 : decode cX8_image 15 = .ok (.aload_n 0, 1) := by decide +kernel
theorem dX8_image_16 : decode cX8_image 16 = .ok (.getfield 31, 3) := by decide +kernel
theorem dX8_image_19 : decode cX8_image 19 = .ok (.invokevirtual 267, 3) := by decide +kernel
theorem dX8_image_22 : decode cX8_image 22 = .ok (.aload_n 0, 1) := by decide +kernel
theorem dX8_image_23 : decode cX8_image 23 = .ok (.iconst 1, 1) := by decide +kernel
theorem dX8_image_24 : decode cX8_image 24 = .ok (.putfield 270, 3) := by decide +kernel
theorem dX8_image_27 : decode cX8_image 27 = .ok (.aload_n 0, 1) := by decide +kernel
theorem dX8_image_28 : decode cX8_image 28 = .ok (.getfield 17, 3) := by decide +kernel
theorem dX8_image_31 : decode cX8_image 31 = .ok (.getfield 77, 3) := by decide +kernel
theorem dX8_image_34 : decode cX8_image 34 = .ok (.ireturn, 1) := by decide +kernel
set_option maxRecDepth 20000 in
theorem ggX8_undo_X1_copies : GoodIn wsX8_undo wsX1_copies := goodIn_r _ [11, 12, 13, 14, 15, 16, 17, 18, 19, 20, 21, 22, 23, 24, 25, 26, 27, 28, 29, 30, 31, 32, 33, 34, 35, 36, 66, 67, 68, 69, 70, 71, 72, 73, 74, 75, 76, 77, 78, 79, 80, 81, 82] (by decide +kernel) (by decide +kernel)
set_option maxRecDepth 20000 in
theorem gX8_undo_X1_copies : GoodIn wsX8_undo (wsV RX8 189 RX1 yX1_copies wsX1_copies) := goodIn_app (goodIn_of _ (by decide +kernel)) ggX8_undo_X1_copies
set_option maxRecDepth 20000 in
theorem ggX8_undo_X3_copies : GoodIn wsX8_undo wsX3_copies := goodIn_r _ [41, 42, 43, 44, 45, 46, 47, 48, 49, 50, 51, 52, 53, 26, 27, 28, 29, 30, 31, 32, 33, 34, 35, 36, 83, 84, 85, 86, 87, 88, 89] (by decide +kernel) (by decide +kernel)
set_option maxRecDepth 20000 in
theorem gX8_undo_X3_copies : GoodIn wsX8_undo (wsV RX8 267 RX3 yX3_copies wsX3_copies) := goodIn_app (goodIn_of _ (by decide +kernel)) ggX8_undo_X3_copies
theorem dX8_undo_0 : decode cX8_undo 0 = .ok (.aload_n 0, 1) := by decide +kernel
theorem dX8_undo_1 : decode cX8_undo 1 = .ok (.getfield 270, 3) := by decide +kernel
theorem dX8_undo_4 : decode cX8_undo 4 = .ok (.ifCond .ne 6, 3) := by decide +kernel
theorem dX8_undo_7 : decode cX8_undo 7 = .ok (.bipush (-3), 2) := by decide +kernel
theorem dX8_undo_9 : decode cX8_undo 9 = .ok (.ireturn, 1) := by decide +kernel
theorem dX8_undo_10 : decode cX8_undo 10 = .ok (.aload_n 0, 1) := by decide +kernel
theorem dX8_undo_11 : decode cX8_undo 11 = .ok (.getfield 17, 3) := by decide +kernel
theorem dX8_undo_14 : decode cX8_undo 14 = .ok (.aload_n 0, 1) := by decide +kernel
theorem dX8_undo_15 : decode cX8_undo 15 = .ok (.getfield 25, 3) := by decide +kernel
theorem dX8_undo_18 : decode cX8_undo 18 = .ok (.invokevirtual 189, 3) := by decide +kernel
theorem dX8_undo_21 : decode cX8_undo 21 = .ok (.aload_n 0, 1) := by decide +kernel
theorem dX8_undo_22 : decode cX8_undo 22 = .ok (.getfield 31, 3) := by decide +kernel
theorem dX8_undo_25 : decode cX8_undo 25 = .ok (.aload_n 0, 1) := by decide +kernel
theorem dX8_undo_26 : decode cX8_undo 26 = .ok (.getfield 35, 3) := by decide +kernel
theorem dX8_undo_29 : decode cX8_undo 29 = .ok (.invokevirtual 267, 3) := by decide +kernel
theorem dX8_undo_32 : decode cX8_undo 32 = .ok (.aload_n 0, 1) := by decide +kernel
theorem dX8_undo_33 : decode cX8_undo 33 = .ok (.getfield 17, 3) := by decide +kernel
theorem dX8_undo_36 : decode cX8_undo 36 = .ok (.getfield 77, 3) := by decide +kernel
theorem dX8_undo_39 : decode cX8_undo 39 = .ok (.ireturn, 1) := by decide +kernel
set_option maxRecDepth 20000 in
theorem ggX8_act_X8_isMaster : GoodIn wsX8_act wsX8_isMaster := goodIn_r _ [10, 3, 11, 12, 13, 9, 14, 34, 35, 36, 37, 38, 39, 40, 41, 42, 43, 44, 45, 51, 52, 53, 54, 55, 56, 57, 58, 59, 60, 61, 62, 63, 64, 65, 66, 67] (by decide +kernel) (by decide +kernel)
set_option maxRecDepth 20000 in
theorem gX8_act_X8_isMaster : GoodIn wsX8_act (wsV RX8 85 RX8 yX8_isMaster wsX8_isMaster) := goodIn_app (goodIn_of _ (by decide +kernel)) ggX8_act_X8_isMaster
set_option maxRecDepth 20000 in
theorem ggX8_act_X8_within : GoodIn wsX8_act wsX8_within := goodIn_r _ [14] (by decide +kernel) (by decide +kernel)
set_option maxRecDepth 20000 in
theorem gX8_act_X8_within : GoodIn wsX8_act (va_wsS RX8 73 yX8_within wsX8_within) := goodIn_app (goodIn_of _ (by decide +kernel)) ggX8_act_X8_within
set_option maxRecDepth 20000 in
theorem ggX8_act_X0_does : GoodIn wsX8_act wsX0_does := goodIn_r _ [19, 20, 21, 22, 23, 24, 25, 18, 26, 27, 28, 29, 30, 31, 32, 33, 46, 47, 48, 49, 50] (by decide +kernel) (by decide +kernel)
set_option maxRecDepth 20000 in
theorem gX8_act_X0_does : GoodIn wsX8_act (wsV RX8 277 RX0 yX0_does wsX0_does) := goodIn_app (goodIn_of _ (by decide +kernel)) ggX8_act_X0_does
theorem dX8_act_0 : decode cX8_act 0 = .ok (.aload_n 0, 1) := by decide +kernel
theorem dX8_act_1 : decode cX8_act 1 = .ok (.getfield 61, 3) := by decide +kernel
theorem dX8_act_4 : decode cX8_act 4 = .ok (.iconst 0, 1) := by decide +kernel
theorem dX8_act_5 : decode cX8_act 5 = .ok (.putfield 274, 3) := by decide +kernel
theorem dX8_act_8 : decode cX8_act 8 = .ok (.aload_n 0, 1) := by decide +kernel
theorem dX8_act_9 : decode cX8_act 9 = .ok (.iload_n 1, 1) := by decide +kernel
theorem dX8_act_10 : decode cX8_act 10 = .ok (.i2l, 1) := by decide +kernel
theorem dX8_act_11 : decode cX8_act 11 = .ok (.invokevirtual 85, 3) := by decide +kernel
theorem dX8_act_14 : decode cX8_act 14 = .ok (.ifCond .eq 12, 3) := by decide +kernel
theorem dX8_act_17 : decode cX8_act 17 = .ok (.iload_n 2, 1) := by decide +kernel
theorem dX8_act_18 : decode cX8_act 18 = .ok (.i2l, 1) := by decide +kernel
theorem dX8_act_19 : decode cX8_act 19 = .ok (.iconst 3, 1) := by decide +kernel
theorem dX8_act_20 : decode cX8_act 20 = .ok (.invokestatic 73, 3) := by decide +kernel
theorem dX8_act_23 : decode cX8_act 23 = .ok (.ifCond .ne 5, 3) := by decide +kernel
theorem dX8_act_26 : decode cX8_act 26 = .ok (.iconst 0, 1) := by decide +kernel
theorem dX8_act_27 : decode cX8_act 27 = .ok (.ireturn, 1) := by decide +kernel
theorem dX8_act_28 : decode cX8_act 28 = .ok (.aload_n 0, 1) := by decide +kernel
theorem dX8_act_29 : decode cX8_act 29 = .ok (.getfield 61, 3) := by decide +kernel
theorem dX8_act_32 : decode cX8_act 32 = .ok (.iload_n 1, 1) := by decide +kernel
theorem dX8_act_33 : decode cX8_act 33 = .ok (.aload_n 0, 1) := by decide +kernel
theorem dX8_act_34 : decode cX8_act 34 = .ok (.getfield 17, 3) := by decide +kernel
theorem dX8_act_37 : decode cX8_act 37 = .ok (.getfield 99, 3) := by decide +kernel
theorem dX8_act_40 : decode cX8_act 40 = .ok (.iload_n 1, 1) := by decide +kernel
theorem dX8_act_41 : decode cX8_act 41 = .ok (.iaload, 1) := by decide +kernel
theorem dX8_act_42 : decode cX8_act 42 = .ok (.aload_n 0, 1) := by decide +kernel
theorem dX8_act_43 : decode cX8_act 43 = .ok (.getfield 17, 3) := by decide +kernel
theorem dX8_act_46 : decode cX8_act 46 = .ok (.getfield 95, 3) := by decide +kernel
theorem dX8_act_49 : decode cX8_act 49 = .ok (.iload_n 1, 1) := by decide +kernel
theorem dX8_act_50 : decode cX8_act 50 = .ok (.iaload, 1) := by decide +kernel
theorem dX8_act_51 : decode cX8_act 51 = .ok (.iload_n 2, 1) := by decide +kernel
theorem dX8_act_52 : decode cX8_act 52 = .ok (.iload_n 3, 1) := by decide +kernel
theorem dX8_act_53 : decode cX8_act 53 = .ok (.invokevirtual 277, 3) := by decide +kernel
theorem dX8_act_56 : decode cX8_act 56 = .ok (.ireturn, 1) := by decide +kernel
set_option maxRecDepth 20000 in
theorem ggX8_trace_X8_within : GoodIn wsX8_trace wsX8_within := goodIn_r _ [11] (by decide +kernel) (by decide +kernel)
set_option maxRecDepth 20000 in
theorem gX8_trace_X8_within : GoodIn wsX8_trace (va_wsS RX8 73 yX8_within wsX8_within) := goodIn_app (goodIn_of _ (by decide +kernel)) ggX8_trace_X8_within
theorem dX8_trace_0 : decode cX8_trace 0 = .ok (.iload_n 1, 1) := by decide +kernel
theorem dX8_trace_1 : decode cX8_trace 1 = .ok (.i2l, 1) := by decide +kernel
theorem dX8_trace_2 : decode cX8_trace 2 = .ok (.aload_n 0, 1) := by decide +kernel
theorem dX8_trace_3 : decode cX8_trace 3 = .ok (.getfield 61, 3) := by decide +kernel
theorem dX8_trace_6 : decode cX8_trace 6 = .ok (.getfield 274, 3) := by decide +kernel
theorem dX8_trace_9 : decode cX8_trace 9 = .ok (.aload_n 0, 1) := by decide +kernel
theorem dX8_trace_10 : decode cX8_trace 10 = .ok (.getfield 61, 3) := by decide +kernel
theorem dX8_trace_13 : decode cX8_trace 13 = .ok (.getfield 281, 3) := by decide +kernel
theorem dX8_trace_16 : decode cX8_trace 16 = .ok (.arraylength, 1) := by decide +kernel
theorem dX8_trace_17 : decode cX8_trace 17 = .ok (.invokestatic 284, 3) := by decide +kernel
theorem dX8_trace_20 : decode cX8_trace 20 = .ok (.invokestatic 73, 3) := by decide +kernel
theorem dX8_trace_23 : decode cX8_trace 23 = .ok (.ifCond .eq 15, 3) := by decide +kernel
theorem dX8_trace_26 : decode cX8_trace 26 = .ok (.aload_n 0, 1) := by decide +kernel
theorem dX8_trace_27 : decode cX8_trace 27 = .ok (.getfield 61, 3) := by decide +kernel
theorem dX8_trace_30 : decode cX8_trace 30 = .ok (.getfield 281, 3) := by decide +kernel
theorem dX8_trace_33 : decode cX8_trace 33 = .ok (.iload_n 1, 1) := by decide +kernel
theorem dX8_trace_34 : decode cX8_trace 34 = .ok (.iaload, 1) := by decide +kernel
theorem dX8_trace_35 : decode cX8_trace 35 = .ok (.goto 4, 3) := by decide +kernel
theorem dX8_trace_38 : decode cX8_trace 38 = .ok (.iconst (-1), 1) := by decide +kernel
theorem dX8_trace_39 : decode cX8_trace 39 = .ok (.ireturn, 1) := by decide +kernel
set_option maxRecDepth 20000 in
theorem ggX8_taken_X8_within : GoodIn wsX8_taken wsX8_within := goodIn_r _ [6] (by decide +kernel) (by decide +kernel)
set_option maxRecDepth 20000 in
theorem gX8_taken_X8_within : GoodIn wsX8_taken (va_wsS RX8 73 yX8_within wsX8_within) := goodIn_app (goodIn_of _ (by decide +kernel)) ggX8_taken_X8_within
set_option maxRecDepth 20000 in
theorem ggX8_taken_X8_isMaster : GoodIn wsX8_taken wsX8_isMaster := goodIn_r _ [10, 1, 11, 3, 4, 5, 6, 16, 17, 18, 19, 20, 21, 22, 23, 24, 25, 26, 27, 28, 29, 30, 31, 32, 33, 34, 35, 36, 37, 38, 39, 40, 41, 42, 43, 44] (by decide +kernel) (by decide +kernel)
set_option maxRecDepth 20000 in
theorem gX8_taken_X8_isMaster : GoodIn wsX8_taken (wsV RX8 85 RX8 yX8_isMaster wsX8_isMaster) := goodIn_app (goodIn_of _ (by decide +kernel)) ggX8_taken_X8_isMaster
set_option maxRecDepth 20000 in
theorem ggX8_taken_X8_isUnder : GoodIn wsX8_taken wsX8_isUnder := goodIn_r _ [14, 15] (by decide +kernel) (by decide +kernel)
set_option maxRecDepth 20000 in
theorem gX8_taken_X8_isUnder : GoodIn wsX8_taken (va_wsS RX8 289 yX8_isUnder wsX8_isUnder) := goodIn_app (goodIn_of _ (by decide +kernel)) ggX8_taken_X8_isUnder
theorem dX8_taken_0 : decode cX8_taken 0 = .ok (.iload_n 2, 1) := by decide +kernel
theorem dX8_taken_1 : decode cX8_taken 1 = .ok (.i2l, 1) := by decide +kernel
theorem dX8_taken_2 : decode cX8_taken 2 = .ok (.bipush 7, 2) := by decide +kernel
theorem dX8_taken_4 : decode cX8_taken 4 = .ok (.invokestatic 73, 3) := by decide +kernel
theorem dX8_taken_7 : decode cX8_taken 7 = .ok (.ifCond .ne 6, 3) := by decide +kernel
theorem dX8_taken_10 : decode cX8_taken 10 = .ok (.bipush (-2), 2) := by decide +kernel
theorem dX8_taken_12 : decode cX8_taken 12 = .ok (.ireturn, 1) := by decide +kernel
theorem dX8_taken_13 : decode cX8_taken 13 = .ok (.aload_n 0, 1) := by decide +kernel
theorem dX8_taken_14 : decode cX8_taken 14 = .ok (.iload_n 1, 1) := by decide +kernel
theorem dX8_taken_15 : decode cX8_taken 15 = .ok (.i2l, 1) := by decide +kernel
theorem dX8_taken_16 : decode cX8_taken 16 = .ok (.invokevirtual 85, 3) := by decide +kernel
theorem dX8_taken_19 : decode cX8_taken 19 = .ok (.ifCond .ne 6, 3) := by decide +kernel
theorem dX8_taken_22 : decode cX8_taken 22 = .ok (.bipush (-11), 2) := by decide +kernel
theorem dX8_taken_24 : decode cX8_taken 24 = .ok (.ireturn, 1) := by decide +kernel
theorem dX8_taken_25 : decode cX8_taken 25 = .ok (.aload_n 0, 1) := by decide +kernel
theorem dX8_taken_26 : decode cX8_taken 26 = .ok (.getfield 17, 3) := by decide +kernel
theorem dX8_taken_29 : decode cX8_taken 29 = .ok (.getfield 95, 3) := by decide +kernel
theorem dX8_taken_32 : decode cX8_taken 32 = .ok (.iload_n 1, 1) := by decide +kernel
theorem dX8_taken_33 : decode cX8_taken 33 = .ok (.iaload, 1) := by decide +kernel
theorem dX8_taken_34 : decode cX8_taken 34 = .ok (.iload_n 2, 1) := by decide +kernel
theorem dX8_taken_35 : decode cX8_taken 35 = .ok (.invokestatic 289, 3) := by decide +kernel
theorem dX8_taken_38 : decode cX8_taken 38 = .ok (.ifCond .eq 15, 3) := by decide +kernel
theorem dX8_taken_41 : decode cX8_taken 41 = .ok (.aload_n 0, 1) := by decide +kernel
theorem dX8_taken_42 : decode cX8_taken 42 = .ok (.getfield 17, 3) := by decide +kernel
theorem dX8_taken_45 : decode cX8_taken 45 = .ok (.getfield 95, 3) := by decide +kernel
theorem dX8_taken_48 : decode cX8_taken 48 = .ok (.iload_n 1, 1) := by decide +kernel
theorem dX8_taken_49 : decode cX8_taken 49 = .ok (.iaload, 1) := by decide +kernel
theorem dX8_taken_50 : decode cX8_taken 50 = .ok (.goto 5, 3) := by decide +kernel
theorem dX8_taken_53 : decode cX8_taken 53 = .ok (.bipush (-12), 2) := by decide +kernel
theorem dX8_taken_55 : decode cX8_taken 55 = .ok (.ireturn, 1) := by decide +kernel
theorem dX8_count_0 : decode cX8_count 0 = .ok (.iload_n 1, 1) := by decide +kernel
theorem dX8_count_1 : decode cX8_count 1 = .ok (.tableswitch 105 0 6 #[43, 51, 56, 67, 78, 89, 97], 43) := by decide +kernel
theorem dX8_count_44 : decode cX8_count 44 = .ok (.aload_n 0, 1) := by decide +kernel
theorem dX8_count_45 : decode cX8_count 45 = .ok (.getfield 17, 3) := by decide +kernel
theorem dX8_count_48 : decode cX8_count 48 = .ok (.getfield 77, 3) := by decide +kernel
theorem dX8_count_51 : decode cX8_count 51 = .ok (.ireturn, 1) := by decide +kernel
theorem dX8_count_52 : decode cX8_count 52 = .ok (.aload_n 0, 1) := by decide +kernel
theorem dX8_count_53 : decode cX8_count 53 = .ok (.getfield 144, 3) := by decide +kernel
theorem dX8_count_56 : decode cX8_count 56 = .ok (.ireturn, 1) := by decide +kernel
theorem dX8_count_57 : decode cX8_count 57 = .ok (.aload_n 0, 1) := by decide +kernel
theorem dX8_count_58 : decode cX8_count 58 = .ok (.getfield 31, 3) := by decide +kernel
theorem dX8_count_61 : decode cX8_count 61 = .ok (.getfield 210, 3) := by decide +kernel
theorem dX8_count_64 : decode cX8_count 64 = .ok (.getfield 244, 3) := by decide +kernel
theorem dX8_count_67 : decode cX8_count 67 = .ok (.ireturn, 1) := by decide +kernel
theorem dX8_count_68 : decode cX8_count 68 = .ok (.aload_n 0, 1) := by decide +kernel
theorem dX8_count_69 : decode cX8_count 69 = .ok (.getfield 31, 3) := by decide +kernel
theorem dX8_count_72 : decode cX8_count 72 = .ok (.getfield 237, 3) := by decide +kernel
theorem dX8_count_75 : decode cX8_count 75 = .ok (.getfield 244, 3) := by decide +kernel
theorem dX8_count_78 : decode cX8_count 78 = .ok (.ireturn, 1) := by decide +kernel
theorem dX8_count_79 : decode cX8_count 79 = .ok (.aload_n 0, 1) := by decide +kernel
theorem dX8_count_80 : decode cX8_count 80 = .ok (.getfield 31, 3) := by decide +kernel
theorem dX8_count_83 : decode cX8_count 83 = .ok (.getfield 254, 3) := by decide +kernel
theorem dX8_count_86 : decode cX8_count 86 = .ok (.getfield 244, 3) := by decide +kernel
theorem dX8_count_89 : decode cX8_count 89 = .ok (.ireturn, 1) := by decide +kernel
theorem dX8_count_90 : decode cX8_count 90 = .ok (.aload_n 0, 1) := by decide +kernel
theorem dX8_count_91 : decode cX8_count 91 = .ok (.getfield 41, 3) := by decide +kernel
theorem dX8_count_94 : decode cX8_count 94 = .ok (.getfield 138, 3) := by decide +kernel
theorem dX8_count_97 : decode cX8_count 97 = .ok (.ireturn, 1) := by decide +kernel
theorem dX8_count_98 : decode cX8_count 98 = .ok (.aload_n 0, 1) := by decide +kernel
theorem dX8_count_99 : decode cX8_count 99 = .ok (.getfield 61, 3) := by decide +kernel
theorem dX8_count_102 : decode cX8_count 102 = .ok (.getfield 274, 3) := by decide +kernel
theorem dX8_count_105 : decode cX8_count 105 = .ok (.ireturn, 1) := by decide +kernel
theorem dX8_count_106 : decode cX8_count 106 = .ok (.bipush (-2), 2) := by decide +kernel
theorem dX8_count_108 : decode cX8_count 108 = .ok (.ireturn, 1) := by decide +kernel
set_option maxRecDepth 20000 in
theorem ggX8_tape_X8_within : GoodIn wsX8_tape wsX8_within := goodIn_r _ [5] (by decide +kernel) (by decide +kernel)
set_option maxRecDepth 20000 in
theorem gX8_tape_X8_within : GoodIn wsX8_tape (va_wsS RX8 73 yX8_within wsX8_within) := goodIn_app (goodIn_of _ (by decide +kernel)) ggX8_tape_X8_within
set_option maxRecDepth 20000 in
theorem ggX8_tape_X6_becomes : GoodIn wsX8_tape wsX6_becomes := goodIn_r _ [10, 11, 12, 13, 26, 27, 28] (by decide +kernel) (by decide +kernel)
set_option maxRecDepth 20000 in
theorem gX8_tape_X6_becomes : GoodIn wsX8_tape (wsV RX8 292 RX6 yX6_becomes wsX6_becomes) := goodIn_app (goodIn_of _ (by decide +kernel)) ggX8_tape_X6_becomes
theorem dX8_tape_0 : decode cX8_tape 0 = .ok (.iload_n 1, 1) := by decide +kernel
theorem dX8_tape_1 : decode cX8_tape 1 = .ok (.i2l, 1) := by decide +kernel
theorem dX8_tape_2 : decode cX8_tape 2 = .ok (.bipush 6, 2) := by decide +kernel
theorem dX8_tape_4 : decode cX8_tape 4 = .ok (.invokestatic 73, 3) := by decide +kernel
theorem dX8_tape_7 : decode cX8_tape 7 = .ok (.ifCond .ne 5, 3) := by decide +kernel
theorem dX8_tape_10 : decode cX8_tape 10 = .ok (.iconst (-1), 1) := by decide +kernel
theorem dX8_tape_11 : decode cX8_tape 11 = .ok (.ireturn, 1) := by decide +kernel
theorem dX8_tape_12 : decode cX8_tape 12 = .ok (.iload_n 2, 1) := by decide +kernel
theorem dX8_tape_13 : decode cX8_tape 13 = .ok (.iconst (-1), 1) := by decide +kernel
theorem dX8_tape_14 : decode cX8_tape 14 = .ok (.if_icmp .ne 16, 3) := by decide +kernel
theorem dX8_tape_17 : decode cX8_tape 17 = .ok (.aload_n 0, 1) := by decide +kernel
theorem dX8_tape_18 : decode cX8_tape 18 = .ok (.getfield 67, 3) := by decide +kernel
theorem dX8_tape_21 : decode cX8_tape 21 = .ok (.iload_n 1, 1) := by decide +kernel
theorem dX8_tape_22 : decode cX8_tape 22 = .ok (.aaload, 1) := by decide +kernel
theorem dX8_tape_23 : decode cX8_tape 23 = .ok (.iload_n 2, 1) := by decide +kernel
theorem dX8_tape_24 : decode cX8_tape 24 = .ok (.iconst 0, 1) := by decide +kernel
theorem dX8_tape_25 : decode cX8_tape 25 = .ok (.invokevirtual 292, 3) := by decide +kernel
theorem dX8_tape_28 : decode cX8_tape 28 = .ok (.iconst 1, 1) := by decide +kernel
theorem dX8_tape_29 : decode cX8_tape 29 = .ok (.ireturn, 1) := by decide +kernel
theorem dX8_tape_30 : decode cX8_tape 30 = .ok (.iload_n 2, 1) := by decide +kernel
theorem dX8_tape_31 : decode cX8_tape 31 = .ok (.i2l, 1) := by decide +kernel
theorem dX8_tape_32 : decode cX8_tape 32 = .ok (.iconst 5, 1) := by decide +kernel
theorem dX8_tape_33 : decode cX8_tape 33 = .ok (.invokestatic 73, 3) := by decide +kernel
theorem dX8_tape_36 : decode cX8_tape 36 = .ok (.ifCond .eq 9, 3) := by decide +kernel
theorem dX8_tape_39 : decode cX8_tape 39 = .ok (.iload_n 3, 1) := by decide +kernel
theorem dX8_tape_40 : decode cX8_tape 40 = .ok (.bipush 60, 2) := by decide +kernel
theorem dX8_tape_42 : decode cX8_tape 42 = .ok (.if_icmp .le 6, 3) := by decide +kernel
theorem dX8_tape_45 : decode cX8_tape 45 = .ok (.bipush (-2), 2) := by decide +kernel
theorem dX8_tape_47 : decode cX8_tape 47 = .ok (.ireturn, 1) := by decide +kernel
theorem dX8_tape_48 : decode cX8_tape 48 = .ok (.iload_n 3, 1) := by decide +kernel
theorem dX8_tape_49 : decode cX8_tape 49 = .ok (.ifCond .ge 6, 3) := by decide +kernel
theorem dX8_tape_52 : decode cX8_tape 52 = .ok (.bipush (-14), 2) := by decide +kernel
theorem dX8_tape_54 : decode cX8_tape 54 = .ok (.ireturn, 1) := by decide +kernel
theorem dX8_tape_55 : decode cX8_tape 55 = .ok (.aload_n 0, 1) := by decide +kernel
theorem dX8_tape_56 : decode cX8_tape 56 = .ok (.getfield 67, 3) := by decide +kernel
theorem dX8_tape_59 : decode cX8_tape 59 = .ok (.iload_n 1, 1) := by decide +kernel
theorem dX8_tape_60 : decode cX8_tape 60 = .ok (.aaload, 1) := by decide +kernel
theorem dX8_tape_61 : decode cX8_tape 61 = .ok (.iload_n 2, 1) := by decide +kernel
theorem dX8_tape_62 : decode cX8_tape 62 = .ok (.iload_n 3, 1) := by decide +kernel
theorem dX8_tape_63 : decode cX8_tape 63 = .ok (.invokevirtual 292, 3) := by decide +kernel
theorem dX8_tape_66 : decode cX8_tape 66 = .ok (.iconst 1, 1) := by decide +kernel
theorem dX8_tape_67 : decode cX8_tape 67 = .ok (.ireturn, 1) := by decide +kernel
set_option maxRecDepth 20000 in
theorem ggX8_item_X8_within : GoodIn wsX8_item wsX8_within := goodIn_r _ [7] (by decide +kernel) (by decide +kernel)
set_option maxRecDepth 20000 in
theorem gX8_item_X8_within : GoodIn wsX8_item (va_wsS RX8 73 yX8_within wsX8_within) := goodIn_app (goodIn_of _ (by decide +kernel)) ggX8_item_X8_within
set_option maxRecDepth 20000 in
theorem ggX8_item_X6_has : GoodIn wsX8_item wsX6_has := goodIn_r _ [12, 13, 31, 32, 33] (by decide +kernel) (by decide +kernel)
set_option maxRecDepth 20000 in
theorem gX8_item_X6_has : GoodIn wsX8_item (wsV RX8 260 RX6 yX6_has wsX6_has) := goodIn_app (goodIn_of _ (by decide +kernel)) ggX8_item_X6_has
set_option maxRecDepth 20000 in
theorem ggX8_item_X6_fitted : GoodIn wsX8_item wsX6_fitted := goodIn_r _ [17, 18, 31, 32, 33] (by decide +kernel) (by decide +kernel)
set_option maxRecDepth 20000 in
theorem gX8_item_X6_fitted : GoodIn wsX8_item (wsV RX8 295 RX6 yX6_fitted wsX6_fitted) := goodIn_app (goodIn_of _ (by decide +kernel)) ggX8_item_X6_fitted
theorem dX8_item_0 : decode cX8_item 0 = .ok (.iload_n 1, 1) := by decide +kernel
theorem dX8_item_1 : decode cX8_item 1 = .ok (.i2l, 1) := by decide +kernel
theorem dX8_item_2 : decode cX8_item 2 = .ok (.bipush 6, 2) := by decide +kernel
theorem dX8_item_4 : decode cX8_item 4 = .ok (.invokestatic 73, 3) := by decide +kernel
theorem dX8_item_7 : decode cX8_item 7 = .ok (.ifCond .ne 5, 3) := by decide +kernel
theorem dX8_item_10 : decode cX8_item 10 = .ok (.iconst (-1), 1) := by decide +kernel
theorem dX8_item_11 : decode cX8_item 11 = .ok (.ireturn, 1) := by decide +kernel
theorem dX8_item_12 : decode cX8_item 12 = .ok (.aload_n 0, 1) := by decide +kernel
theorem dX8_item_13 : decode cX8_item 13 = .ok (.getfield 67, 3) := by decide +kernel
theorem dX8_item_16 : decode cX8_item 16 = .ok (.iload_n 1, 1) := by decide +kernel
theorem dX8_item_17 : decode cX8_item 17 = .ok (.aaload, 1) := by decide +kernel
theorem dX8_item_18 : decode cX8_item 18 = .ok (.astore 5, 2) := by decide +kernel
theorem dX8_item_20 : decode cX8_item 20 = .ok (.aload 5, 2) := by decide +kernel
theorem dX8_item_22 : decode cX8_item 22 = .ok (.getfield 257, 3) := by decide +kernel
theorem dX8_item_25 : decode cX8_item 25 = .ok (.iconst (-1), 1) := by decide +kernel
theorem dX8_item_26 : decode cX8_item 26 = .ok (.if_icmp .ne 6, 3) := by decide +kernel
theorem dX8_item_29 : decode cX8_item 29 = .ok (.bipush (-11), 2) := by decide +kernel
theorem dX8_item_31 : decode cX8_item 31 = .ok (.ireturn, 1) := by decide +kernel
theorem dX8_item_32 : decode cX8_item 32 = .ok (.aload 5, 2) := by decide +kernel
theorem dX8_item_34 : decode cX8_item 34 = .ok (.iload_n 2, 1) := by decide +kernel
theorem dX8_item_35 : decode cX8_item 35 = .ok (.i2l, 1) := by decide +kernel
theorem dX8_item_36 : decode cX8_item 36 = .ok (.invokevirtual 260, 3) := by decide +kernel
theorem dX8_item_39 : decode cX8_item 39 = .ok (.ifCond .ne 6, 3) := by decide +kernel
theorem dX8_item_42 : decode cX8_item 42 = .ok (.bipush (-13), 2) := by decide +kernel
theorem dX8_item_44 : decode cX8_item 44 = .ok (.ireturn, 1) := by decide +kernel
theorem dX8_item_45 : decode cX8_item 45 = .ok (.aload 5, 2) := by decide +kernel
theorem dX8_item_47 : decode cX8_item 47 = .ok (.getfield 263, 3) := by decide +kernel
theorem dX8_item_50 : decode cX8_item 50 = .ok (.iload_n 2, 1) := by decide +kernel
theorem dX8_item_51 : decode cX8_item 51 = .ok (.aload 5, 2) := by decide +kernel
theorem dX8_item_53 : decode cX8_item 53 = .ok (.lload_n 3, 1) := by decide +kernel
theorem dX8_item_54 : decode cX8_item 54 = .ok (.invokevirtual 295, 3) := by decide +kernel
theorem dX8_item_57 : decode cX8_item 57 = .ok (.lastore, 1) := by decide +kernel
theorem dX8_item_58 : decode cX8_item 58 = .ok (.iconst 1, 1) := by decide +kernel
theorem dX8_item_59 : decode cX8_item 59 = .ok (.ireturn, 1) := by decide +kernel
set_option maxRecDepth 20000 in
theorem ggX8_read_X8_within : GoodIn wsX8_read wsX8_within := goodIn_r _ [7] (by decide +kernel) (by decide +kernel)
set_option maxRecDepth 20000 in
theorem gX8_read_X8_within : GoodIn wsX8_read (va_wsS RX8 73 yX8_within wsX8_within) := goodIn_app (goodIn_of _ (by decide +kernel)) ggX8_read_X8_within
set_option maxRecDepth 20000 in
theorem ggX8_read_X6_has : GoodIn wsX8_read wsX6_has := goodIn_r _ [12, 13, 26, 27, 28] (by decide +kernel) (by decide +kernel)
set_option maxRecDepth 20000 in
theorem gX8_read_X6_has : GoodIn wsX8_read (wsV RX8 260 RX6 yX6_has wsX6_has) := goodIn_app (goodIn_of _ (by decide +kernel)) ggX8_read_X6_has
theorem dX8_read_0 : decode cX8_read 0 = .ok (.iload_n 1, 1) := by decide +kernel
theorem dX8_read_1 : decode cX8_read 1 = .ok (.i2l, 1) := by decide +kernel
theorem dX8_read_2 : decode cX8_read 2 = .ok (.bipush 6, 2) := by decide +kernel
theorem dX8_read_4 : decode cX8_read 4 = .ok (.invokestatic 73, 3) := by decide +kernel
theorem dX8_read_7 : decode cX8_read 7 = .ok (.ifCond .eq 31, 3) := by decide +kernel
theorem dX8_read_10 : decode cX8_read 10 = .ok (.aload_n 0, 1) := by decide +kernel
theorem dX8_read_11 : decode cX8_read 11 = .ok (.getfield 67, 3) := by decide +kernel
theorem dX8_read_14 : decode cX8_read 14 = .ok (.iload_n 1, 1) := by decide +kernel
theorem dX8_read_15 : decode cX8_read 15 = .ok (.aaload, 1) := by decide +kernel
theorem dX8_read_16 : decode cX8_read 16 = .ok (.iload_n 2, 1) := by decide +kernel
theorem dX8_read_17 : decode cX8_read 17 = .ok (.i2l, 1) := by decide +kernel
theorem dX8_read_18 : decode cX8_read 18 = .ok (.invokevirtual 260, 3) := by decide +kernel
theorem dX8_read_21 : decode cX8_read 21 = .ok (.ifCond .eq 17, 3) := by decide +kernel
theorem dX8_read_24 : decode cX8_read 24 = .ok (.aload_n 0, 1) := by decide +kernel
theorem dX8_read_25 : decode cX8_read 25 = .ok (.getfield 67, 3) := by decide +kernel
theorem dX8_read_28 : decode cX8_read 28 = .ok (.iload_n 1, 1) := by decide +kernel
theorem dX8_read_29 : decode cX8_read 29 = .ok (.aaload, 1) := by decide +kernel
theorem dX8_read_30 : decode cX8_read 30 = .ok (.getfield 263, 3) := by decide +kernel
theorem dX8_read_33 : decode cX8_read 33 = .ok (.iload_n 2, 1) := by decide +kernel
theorem dX8_read_34 : decode cX8_read 34 = .ok (.laload, 1) := by decide +kernel
theorem dX8_read_35 : decode cX8_read 35 = .ok (.goto 6, 3) := by decide +kernel
theorem dX8_read_38 : decode cX8_read 38 = .ok (.ldc2_w 228, 3) := by decide +kernel
theorem dX8_read_41 : decode cX8_read 41 = .ok (.lreturn, 1) := by decide +kernel
set_option maxRecDepth 20000 in
theorem ggX8_shift_X8_within : GoodIn wsX8_shift wsX8_within := goodIn_r _ [11] (by decide +kernel) (by decide +kernel)
set_option maxRecDepth 20000 in
theorem gX8_shift_X8_within : GoodIn wsX8_shift (va_wsS RX8 73 yX8_within wsX8_within) := goodIn_app (goodIn_of _ (by decide +kernel)) ggX8_shift_X8_within
set_option maxRecDepth 20000 in
theorem ggX8_shift_X6_hasRun : GoodIn wsX8_shift wsX6_hasRun := goodIn_r _ [16, 17, 30, 31, 32] (by decide +kernel) (by decide +kernel)
set_option maxRecDepth 20000 in
theorem gX8_shift_X6_hasRun : GoodIn wsX8_shift (wsV RX8 299 RX6 yX6_hasRun wsX6_hasRun) := goodIn_app (goodIn_of _ (by decide +kernel)) ggX8_shift_X6_hasRun
theorem dX8_shift_0 : decode cX8_shift 0 = .ok (.iload_n 1, 1) := by decide +kernel
theorem dX8_shift_1 : decode cX8_shift 1 = .ok (.i2l, 1) := by decide +kernel
theorem dX8_shift_2 : decode cX8_shift 2 = .ok (.bipush 6, 2) := by decide +kernel
theorem dX8_shift_4 : decode cX8_shift 4 = .ok (.invokestatic 73, 3) := by decide +kernel
theorem dX8_shift_7 : decode cX8_shift 7 = .ok (.ifCond .eq 13, 3) := by decide +kernel
theorem dX8_shift_10 : decode cX8_shift 10 = .ok (.iload_n 3, 1) := by decide +kernel
theorem dX8_shift_11 : decode cX8_shift 11 = .ok (.i2l, 1) := by decide +kernel
theorem dX8_shift_12 : decode cX8_shift 12 = .ok (.bipush 6, 2) := by decide +kernel
theorem dX8_shift_14 : decode cX8_shift 14 = .ok (.invokestatic 73, 3) := by decide +kernel
theorem dX8_shift_17 : decode cX8_shift 17 = .ok (.ifCond .ne 5, 3) := by decide +kernel
theorem dX8_shift_20 : decode cX8_shift 20 = .ok (.iconst (-1), 1) := by decide +kernel
theorem dX8_shift_21 : decode cX8_shift 21 = .ok (.ireturn, 1) := by decide +kernel
theorem dX8_shift_22 : decode cX8_shift 22 = .ok (.aload_n 0, 1) := by decide +kernel
theorem dX8_shift_23 : decode cX8_shift 23 = .ok (.getfield 67, 3) := by decide +kernel
theorem dX8_shift_26 : decode cX8_shift 26 = .ok (.iload_n 1, 1) := by decide +kernel
theorem dX8_shift_27 : decode cX8_shift 27 = .ok (.aaload, 1) := by decide +kernel
theorem dX8_shift_28 : decode cX8_shift 28 = .ok (.astore 6, 2) := by decide +kernel
theorem dX8_shift_30 : decode cX8_shift 30 = .ok (.aload_n 0, 1) := by decide +kernel
theorem dX8_shift_31 : decode cX8_shift 31 = .ok (.getfield 67, 3) := by decide +kernel
theorem dX8_shift_34 : decode cX8_shift 34 = .ok (.iload_n 3, 1) := by decide +kernel
theorem dX8_shift_35 : decode cX8_shift 35 = .ok (.aaload, 1) := by decide +kernel
theorem dX8_shift_36 : decode cX8_shift 36 = .ok (.astore 7, 2) := by decide +kernel
theorem dX8_shift_38 : decode cX8_shift 38 = .ok (.aload 6, 2) := by decide +kernel
theorem dX8_shift_40 : decode cX8_shift 40 = .ok (.getfield 257, 3) := by decide +kernel
theorem dX8_shift_43 : decode cX8_shift 43 = .ok (.iconst (-1), 1) := by decide +kernel
theorem dX8_shift_44 : decode cX8_shift 44 = .ok (.if_icmp .eq 12, 3) := by decide +kernel
theorem dX8_shift_47 : decode cX8_shift 47 = .ok (.aload 7, 2) := by decide +kernel
theorem dX8_shift_49 : decode cX8_shift 49 = .ok (.getfield 257, 3) := by decide +kernel
theorem dX8_shift_52 : decode cX8_shift 52 = .ok (.iconst (-1), 1) := by decide +kernel
theorem dX8_shift_53 : decode cX8_shift 53 = .ok (.if_icmp .ne 6, 3) := by decide +kernel
theorem dX8_shift_56 : decode cX8_shift 56 = .ok (.bipush (-11), 2) := by decide +kernel
theorem dX8_shift_58 : decode cX8_shift 58 = .ok (.ireturn, 1) := by decide +kernel
theorem dX8_shift_59 : decode cX8_shift 59 = .ok (.aload 6, 2) := by decide +kernel
theorem dX8_shift_61 : decode cX8_shift 61 = .ok (.getfield 257, 3) := by decide +kernel
theorem dX8_shift_64 : decode cX8_shift 64 = .ok (.aload 7, 2) := by decide +kernel
theorem dX8_shift_66 : decode cX8_shift 66 = .ok (.getfield 257, 3) := by decide +kernel
theorem dX8_shift_69 : decode cX8_shift 69 = .ok (.if_icmp .eq 6, 3) := by decide +kernel
theorem dX8_shift_72 : decode cX8_shift 72 = .ok (.bipush (-12), 2) := by decide +kernel
theorem dX8_shift_74 : decode cX8_shift 74 = .ok (.ireturn, 1) := by decide +kernel
theorem dX8_shift_75 : decode cX8_shift 75 = .ok (.aload 6, 2) := by decide +kernel
theorem dX8_shift_77 : decode cX8_shift 77 = .ok (.iload_n 2, 1) := by decide +kernel
theorem dX8_shift_78 : decode cX8_shift 78 = .ok (.iload 5, 2) := by decide +kernel
theorem dX8_shift_80 : decode cX8_shift 80 = .ok (.invokevirtual 299, 3) := by decide +kernel
theorem dX8_shift_83 : decode cX8_shift 83 = .ok (.ifCond .eq 15, 3) := by decide +kernel
theorem dX8_shift_86 : decode cX8_shift 86 = .ok (.aload 7, 2) := by decide +kernel
theorem dX8_shift_88 : decode cX8_shift 88 = .ok (.iload 4, 2) := by decide +kernel
theorem dX8_shift_90 : decode cX8_shift 90 = .ok (.iload 5, 2) := by decide +kernel
theorem dX8_shift_92 : decode cX8_shift 92 = .ok (.invokevirtual 299, 3) := by decide +kernel
theorem dX8_shift_95 : decode cX8_shift 95 = .ok (.ifCond .ne 6, 3) := by decide +kernel
theorem dX8_shift_98 : decode cX8_shift 98 = .ok (.bipush (-13), 2) := by decide +kernel
theorem dX8_shift_100 : decode cX8_shift 100 = .ok (.ireturn, 1) := by decide +kernel
theorem dX8_shift_101 : decode cX8_shift 101 = .ok (.aload 6, 2) := by decide +kernel
theorem dX8_shift_103 : decode cX8_shift 103 = .ok (.getfield 263, 3) := by decide +kernel
theorem dX8_shift_106 : decode cX8_shift 106 = .ok (.iload_n 2, 1) := by decide +kernel
theorem dX8_shift_107 : decode cX8_shift 107 = .ok (.aload 7, 2) := by decide +kernel
theorem dX8_shift_109 : decode cX8_shift 109 = .ok (.getfield 263, 3) := by decide +kernel
theorem dX8_shift_112 : decode cX8_shift 112 = .ok (.iload 4, 2) := by decide +kernel
theorem dX8_shift_114 : decode cX8_shift 114 = .ok (.iload 5, 2) := by decide +kernel
theorem dX8_shift_116 : decode cX8_shift 116 = .ok (.invokestatic 302, 3) := by decide +kernel
theorem dX8_shift_119 : decode cX8_shift 119 = .ok (.iload 5, 2) := by decide +kernel
theorem dX8_shift_121 : decode cX8_shift 121 = .ok (.ireturn, 1) := by decide +kernel
theorem dX8_within_0 : decode cX8_within 0 = .ok (.lload_n 0, 1) := by decide +kernel
theorem dX8_within_1 : decode cX8_within 1 = .ok (.lconst 0, 1) := by decide +kernel
theorem dX8_within_2 : decode cX8_within 2 = .ok (.lcmp, 1) := by decide +kernel
theorem dX8_within_3 : decode cX8_within 3 = .ok (.ifCond .lt 14, 3) := by decide +kernel
theorem dX8_within_6 : decode cX8_within 6 = .ok (.lload_n 0, 1) := by decide +kernel
theorem dX8_within_7 : decode cX8_within 7 = .ok (.iload_n 2, 1) := by decide +kernel
theorem dX8_within_8 : decode cX8_within 8 = .ok (.i2l, 1) := by decide +kernel
theorem dX8_within_9 : decode cX8_within 9 = .ok (.lcmp, 1) := by decide +kernel
theorem dX8_within_10 : decode cX8_within 10 = .ok (.ifCond .ge 7, 3) := by decide +kernel
theorem dX8_within_13 : decode cX8_within 13 = .ok (.iconst 1, 1) := by decide +kernel
theorem dX8_within_14 : decode cX8_within 14 = .ok (.goto 4, 3) := by decide +kernel
theorem dX8_within_17 : decode cX8_within 17 = .ok (.iconst 0, 1) := by decide +kernel
theorem dX8_within_18 : decode cX8_within 18 = .ok (.ireturn, 1) := by decide +kernel
set_option maxRecDepth 20000 in
theorem ggX8_isMaster_X8_within : GoodIn wsX8_isMaster wsX8_within := goodIn_r _ [6] (by decide +kernel) (by decide +kernel)
set_option maxRecDepth 20000 in
theorem gX8_isMaster_X8_within : GoodIn wsX8_isMaster (va_wsS RX8 73 yX8_within wsX8_within) := goodIn_app (goodIn_of _ (by decide +kernel)) ggX8_isMaster_X8_within
theorem dX8_isMaster_0 : decode cX8_isMaster 0 = .ok (.lload_n 1, 1) := by decide +kernel
theorem dX8_isMaster_1 : decode cX8_isMaster 1 = .ok (.aload_n 0, 1) := by decide +kernel
theorem dX8_isMaster_2 : decode cX8_isMaster 2 = .ok (.getfield 17, 3) := by decide +kernel
theorem dX8_isMaster_5 : decode cX8_isMaster 5 = .ok (.getfield 77, 3) := by decide +kernel
theorem dX8_isMaster_8 : decode cX8_isMaster 8 = .ok (.invokestatic 73, 3) := by decide +kernel
theorem dX8_isMaster_11 : decode cX8_isMaster 11 = .ok (.ireturn, 1) := by decide +kernel
theorem dX8_swapIn_0 : decode cX8_swapIn 0 = .ok (.aload_n 0, 1) := by decide +kernel
theorem dX8_swapIn_1 : decode cX8_swapIn 1 = .ok (.iload_n 1, 1) := by decide +kernel
theorem dX8_swapIn_2 : decode cX8_swapIn 2 = .ok (.iaload, 1) := by decide +kernel
theorem dX8_swapIn_3 : decode cX8_swapIn 3 = .ok (.istore_n 3, 1) := by decide +kernel
theorem dX8_swapIn_4 : decode cX8_swapIn 4 = .ok (.aload_n 0, 1) := by decide +kernel
theorem dX8_swapIn_5 : decode cX8_swapIn 5 = .ok (.iload_n 1, 1) := by decide +kernel
theorem dX8_swapIn_6 : decode cX8_swapIn 6 = .ok (.iload_n 2, 1) := by decide +kernel
theorem dX8_swapIn_7 : decode cX8_swapIn 7 = .ok (.iastore, 1) := by decide +kernel
theorem dX8_swapIn_8 : decode cX8_swapIn 8 = .ok (.iload_n 3, 1) := by decide +kernel
theorem dX8_swapIn_9 : decode cX8_swapIn 9 = .ok (.ireturn, 1) := by decide +kernel
theorem dX8_copy_0 : decode cX8_copy 0 = .ok (.aload_n 0, 1) := by decide +kernel
theorem dX8_copy_1 : decode cX8_copy 1 = .ok (.iconst 0, 1) := by decide +kernel
theorem dX8_copy_2 : decode cX8_copy 2 = .ok (.aload_n 1, 1) := by decide +kernel
theorem dX8_copy_3 : decode cX8_copy 3 = .ok (.iconst 0, 1) := by decide +kernel
theorem dX8_copy_4 : decode cX8_copy 4 = .ok (.aload_n 0, 1) := by decide +kernel
theorem dX8_copy_5 : decode cX8_copy 5 = .ok (.arraylength, 1) := by decide +kernel
theorem dX8_copy_6 : decode cX8_copy 6 = .ok (.aload_n 1, 1) := by decide +kernel
theorem dX8_copy_7 : decode cX8_copy 7 = .ok (.arraylength, 1) := by decide +kernel
theorem dX8_copy_8 : decode cX8_copy 8 = .ok (.invokestatic 284, 3) := by decide +kernel
theorem dX8_copy_11 : decode cX8_copy 11 = .ok (.invokestatic 302, 3) := by decide +kernel
theorem dX8_copy_14 : decode cX8_copy 14 = .ok (.return_, 1) := by decide +kernel
theorem dX8_isUnder_0 : decode cX8_isUnder 0 = .ok (.iload_n 0, 1) := by decide +kernel
theorem dX8_isUnder_1 : decode cX8_isUnder 1 = .ok (.istore_n 2, 1) := by decide +kernel
theorem dX8_isUnder_2 : decode cX8_isUnder 2 = .ok (.iconst 0, 1) := by decide +kernel
theorem dX8_isUnder_3 : decode cX8_isUnder 3 = .ok (.istore_n 3, 1) := by decide +kernel
theorem dX8_isUnder_4 : decode cX8_isUnder 4 = .ok (.iload_n 3, 1) := by decide +kernel
theorem dX8_isUnder_5 : decode cX8_isUnder 5 = .ok (.bipush 7, 2) := by decide +kernel
theorem dX8_isUnder_7 : decode cX8_isUnder 7 = .ok (.if_icmp .ge 24, 3) := by decide +kernel
theorem dX8_isUnder_10 : decode cX8_isUnder 10 = .ok (.iload_n 2, 1) := by decide +kernel
theorem dX8_isUnder_11 : decode cX8_isUnder 11 = .ok (.ifCond .lt 20, 3) := by decide +kernel
theorem dX8_isUnder_14 : decode cX8_isUnder 14 = .ok (.iload_n 2, 1) := by decide +kernel
theorem dX8_isUnder_15 : decode cX8_isUnder 15 = .ok (.iload_n 1, 1) := by decide +kernel
theorem dX8_isUnder_16 : decode cX8_isUnder 16 = .ok (.if_icmp .eq 15, 3) := by decide +kernel
theorem dX8_isUnder_19 : decode cX8_isUnder 19 = .ok (.getstatic 308, 3) := by decide +kernel
theorem dX8_isUnder_22 : decode cX8_isUnder 22 = .ok (.iload_n 2, 1) := by decide +kernel
theorem dX8_isUnder_23 : decode cX8_isUnder 23 = .ok (.iaload, 1) := by decide +kernel
theorem dX8_isUnder_24 : decode cX8_isUnder 24 = .ok (.istore_n 2, 1) := by decide +kernel
theorem dX8_isUnder_25 : decode cX8_isUnder 25 = .ok (.iinc 3 1, 3) := by decide +kernel
theorem dX8_isUnder_28 : decode cX8_isUnder 28 = .ok (.goto (-24), 3) := by decide +kernel
theorem dX8_isUnder_31 : decode cX8_isUnder 31 = .ok (.iload_n 2, 1) := by decide +kernel
theorem dX8_isUnder_32 : decode cX8_isUnder 32 = .ok (.iload_n 1, 1) := by decide +kernel
theorem dX8_isUnder_33 : decode cX8_isUnder 33 = .ok (.if_icmp .ne 7, 3) := by decide +kernel
theorem dX8_isUnder_36 : decode cX8_isUnder 36 = .ok (.iconst 1, 1) := by decide +kernel
theorem dX8_isUnder_37 : decode cX8_isUnder 37 = .ok (.goto 4, 3) := by decide +kernel
theorem dX8_isUnder_40 : decode cX8_isUnder 40 = .ok (.iconst 0, 1) := by decide +kernel
theorem dX8_isUnder_41 : decode cX8_isUnder 41 = .ok (.ireturn, 1) := by decide +kernel
theorem dX8_lowest_0 : decode cX8_lowest 0 = .ok (.iload_n 1, 1) := by decide +kernel
theorem dX8_lowest_1 : decode cX8_lowest 1 = .ok (.istore_n 3, 1) := by decide +kernel
theorem dX8_lowest_2 : decode cX8_lowest 2 = .ok (.iload_n 0, 1) := by decide +kernel
theorem dX8_lowest_3 : decode cX8_lowest 3 = .ok (.istore 4, 2) := by decide +kernel
theorem dX8_lowest_5 : decode cX8_lowest 5 = .ok (.iconst 0, 1) := by decide +kernel
theorem dX8_lowest_6 : decode cX8_lowest 6 = .ok (.istore 5, 2) := by decide +kernel
theorem dX8_lowest_8 : decode cX8_lowest 8 = .ok (.iload 5, 2) := by decide +kernel
theorem dX8_lowest_10 : decode cX8_lowest 10 = .ok (.bipush 100, 2) := by decide +kernel
theorem dX8_lowest_12 : decode cX8_lowest 12 = .ok (.if_icmp .ge 27, 3) := by decide +kernel
theorem dX8_lowest_15 : decode cX8_lowest 15 = .ok (.iload 4, 2) := by decide +kernel
theorem dX8_lowest_17 : decode cX8_lowest 17 = .ok (.ifCond .eq 22, 3) := by decide +kernel
theorem dX8_lowest_20 : decode cX8_lowest 20 = .ok (.iload_n 3, 1) := by decide +kernel
theorem dX8_lowest_21 : decode cX8_lowest 21 = .ok (.iload 4, 2) := by decide +kernel
theorem dX8_lowest_23 : decode cX8_lowest 23 = .ok (.irem, 1) := by decide +kernel
theorem dX8_lowest_24 : decode cX8_lowest 24 = .ok (.istore 6, 2) := by decide +kernel
theorem dX8_lowest_26 : decode cX8_lowest 26 = .ok (.iload 4, 2) := by decide +kernel
theorem dX8_lowest_28 : decode cX8_lowest 28 = .ok (.istore_n 3, 1) := by decide +kernel
theorem dX8_lowest_29 : decode cX8_lowest 29 = .ok (.iload 6, 2) := by decide +kernel
theorem dX8_lowest_31 : decode cX8_lowest 31 = .ok (.istore 4, 2) := by decide +kernel
theorem dX8_lowest_33 : decode cX8_lowest 33 = .ok (.iinc 5 1, 3) := by decide +kernel
theorem dX8_lowest_36 : decode cX8_lowest 36 = .ok (.goto (-28), 3) := by decide +kernel
theorem dX8_lowest_39 : decode cX8_lowest 39 = .ok (.iload_n 2, 1) := by decide +kernel
theorem dX8_lowest_40 : decode cX8_lowest 40 = .ok (.ifCond .ne 7, 3) := by decide +kernel
theorem dX8_lowest_43 : decode cX8_lowest 43 = .ok (.iload_n 0, 1) := by decide +kernel
theorem dX8_lowest_44 : decode cX8_lowest 44 = .ok (.goto 4, 3) := by decide +kernel
theorem dX8_lowest_47 : decode cX8_lowest 47 = .ok (.iload_n 1, 1) := by decide +kernel
theorem dX8_lowest_48 : decode cX8_lowest 48 = .ok (.istore 5, 2) := by decide +kernel
theorem dX8_lowest_50 : decode cX8_lowest 50 = .ok (.iload_n 3, 1) := by decide +kernel
theorem dX8_lowest_51 : decode cX8_lowest 51 = .ok (.ifCond .ne 9, 3) := by decide +kernel
theorem dX8_lowest_54 : decode cX8_lowest 54 = .ok (.iload 5, 2) := by decide +kernel
theorem dX8_lowest_56 : decode cX8_lowest 56 = .ok (.i2l, 1) := by decide +kernel
theorem dX8_lowest_57 : decode cX8_lowest 57 = .ok (.goto 8, 3) := by decide +kernel
theorem dX8_lowest_60 : decode cX8_lowest 60 = .ok (.iload 5, 2) := by decide +kernel
theorem dX8_lowest_62 : decode cX8_lowest 62 = .ok (.iload_n 3, 1) := by decide +kernel
theorem dX8_lowest_63 : decode cX8_lowest 63 = .ok (.idiv, 1) := by decide +kernel
theorem dX8_lowest_64 : decode cX8_lowest 64 = .ok (.i2l, 1) := by decide +kernel
theorem dX8_lowest_65 : decode cX8_lowest 65 = .ok (.lreturn, 1) := by decide +kernel
set_option maxRecDepth 20000 in
theorem ggX8_quiet_X1_copies : GoodIn wsX8_quiet wsX1_copies := goodIn_r _ [8, 9, 10, 11, 12, 13, 14, 15, 16, 17, 18, 19, 20, 21, 22, 23, 24, 25, 26, 27, 28, 29, 30, 31, 32, 33, 114, 115, 116, 117, 118, 119, 120, 121, 122, 123, 124, 125, 126, 127, 128, 129, 130] (by decide +kernel) (by decide +kernel)
set_option maxRecDepth 20000 in
theorem gX8_quiet_X1_copies : GoodIn wsX8_quiet (wsV RX8 189 RX1 yX1_copies wsX1_copies) := goodIn_app (goodIn_of _ (by decide +kernel)) ggX8_quiet_X1_copies
set_option maxRecDepth 20000 in
theorem ggX8_quiet_X1_goes : GoodIn wsX8_quiet wsX1_goes := goodIn_r _ [37, 18, 14, 38, 20, 19, 39, 27, 28, 29, 21, 40, 41, 42, 7, 43, 12, 44, 45, 46, 47, 48, 49, 50, 51, 52, 53, 54, 55, 56, 57, 58, 59, 60, 61, 62, 63, 13, 64, 65, 66, 67, 11, 10, 9, 15, 16, 68, 69, 70, 71, 72, 73, 74, 22, 75, 76, 77, 78, 79, 80, 81, 82, 83, 84, 85, 86, 87, 88, 89, 90, 91, 92, 93, 94, 95, 96, 97, 98, 99, 100, 101, 114, 115, 116, 117, 118, 119, 120, 121, 122, 123, 124, 125, 126, 127, 128, 129, 130, 131, 132, 133] (by decide +kernel) (by decide +kernel)
set_option maxRecDepth 20000 in
theorem gX8_quiet_X1_goes : GoodIn wsX8_quiet (wsV RX8 185 RX1 yX1_goes wsX1_goes) := goodIn_app (goodIn_of _ (by decide +kernel)) ggX8_quiet_X1_goes
theorem dX8_quiet_0 : decode cX8_quiet 0 = .ok (.aload_n 0, 1) := by decide +kernel
theorem dX8_quiet_1 : decode cX8_quiet 1 = .ok (.getfield 22, 3) := by decide +kernel
theorem dX8_quiet_4 : decode cX8_quiet 4 = .ok (.aload_n 0, 1) := by decide +kernel
theorem dX8_quiet_5 : decode cX8_quiet 5 = .ok (.getfield 17, 3) := by decide +kernel
theorem dX8_quiet_8 : decode cX8_quiet 8 = .ok (.invokevirtual 189, 3) := by decide +kernel
theorem dX8_quiet_11 : decode cX8_quiet 11 = .ok (.iconst 0, 1) := by decide +kernel
theorem dX8_quiet_12 : decode cX8_quiet 12 = .ok (.istore_n 1, 1) := by decide +kernel
theorem dX8_quiet_13 : decode cX8_quiet 13 = .ok (.iload_n 1, 1) := by decide +kernel
theorem dX8_quiet_14 : decode cX8_quiet 14 = .ok (.bipush 60, 2) := by decide +kernel
theorem dX8_quiet_16 : decode cX8_quiet 16 = .ok (.if_icmp .gt 29, 3) := by decide +kernel
theorem dX8_quiet_19 : decode cX8_quiet 19 = .ok (.aload_n 0, 1) := by decide +kernel
theorem dX8_quiet_20 : decode cX8_quiet 20 = .ok (.getfield 22, 3) := by decide +kernel
theorem dX8_quiet_23 : decode cX8_quiet 23 = .ok (.getfield 169, 3) := by decide +kernel
theorem dX8_quiet_26 : decode cX8_quiet 26 = .ok (.ifCond .ne 5, 3) := by decide +kernel
theorem dX8_quiet_29 : decode cX8_quiet 29 = .ok (.iload_n 1, 1) := by decide +kernel
theorem dX8_quiet_30 : decode cX8_quiet 30 = .ok (.ireturn, 1) := by decide +kernel
theorem dX8_quiet_31 : decode cX8_quiet 31 = .ok (.aload_n 0, 1) := by decide +kernel
theorem dX8_quiet_32 : decode cX8_quiet 32 = .ok (.getfield 22, 3) := by decide +kernel
theorem dX8_quiet_35 : decode cX8_quiet 35 = .ok (.iconst 1, 1) := by decide +kernel
theorem dX8_quiet_36 : decode cX8_quiet 36 = .ok (.invokevirtual 185, 3) := by decide +kernel
theorem dX8_quiet_39 : decode cX8_quiet 39 = .ok (.iinc 1 1, 3) := by decide +kernel
theorem dX8_quiet_42 : decode cX8_quiet 42 = .ok (.goto (-29), 3) := by decide +kernel
theorem dX8_quiet_45 : decode cX8_quiet 45 = .ok (.bipush (-5), 2) := by decide +kernel
theorem dX8_quiet_47 : decode cX8_quiet 47 = .ok (.ireturn, 1) := by decide +kernel
set_option maxRecDepth 20000 in
theorem ggX8_minutesTo_X1_goes : GoodIn wsX8_minutesTo wsX1_goes := goodIn_r _ [6, 7, 8, 9, 10, 11, 12, 13, 14, 15, 16, 17, 18, 19, 5, 20, 21, 22, 23, 24, 25, 26, 27, 28, 29, 30, 31, 32, 33, 34, 35, 36, 37, 38, 39, 40, 41, 42, 43, 44, 45, 46, 47, 48, 49, 50, 51, 52, 53, 54, 55, 56, 57, 58, 59, 60, 61, 62, 63, 64, 65, 66, 67, 68, 69, 70, 71, 72, 73, 74, 75, 76, 77, 78, 79, 80, 81, 82, 83, 84, 85, 86, 100, 101, 102, 103, 104, 105, 106, 107, 108, 109, 110, 111, 112, 113, 114, 115, 116, 117, 118, 119] (by decide +kernel) (by decide +kernel)
set_option maxRecDepth 20000 in
theorem gX8_minutesTo_X1_goes : GoodIn wsX8_minutesTo (wsV RX8 185 RX1 yX1_goes wsX1_goes) := goodIn_app (goodIn_of _ (by decide +kernel)) ggX8_minutesTo_X1_goes
set_option maxRecDepth 20000 in
theorem ggX8_minutesTo_X1_isRung : GoodIn wsX8_minutesTo wsX1_isRung := goodIn_r _ [29, 11, 100, 101, 102, 103, 104, 105, 106, 107, 108, 109, 110, 111, 112, 113, 114, 115, 116] (by decide +kernel) (by decide +kernel)
set_option maxRecDepth 20000 in
theorem gX8_minutesTo_X1_isRung : GoodIn wsX8_minutesTo (wsV RX8 311 RX1 yX1_isRung wsX1_isRung) := goodIn_app (goodIn_of _ (by decide +kernel)) ggX8_minutesTo_X1_isRung
theorem dX8_minutesTo_0 : decode cX8_minutesTo 0 = .ok (.iconst 1, 1) := by decide +kernel
theorem dX8_minutesTo_1 : decode cX8_minutesTo 1 = .ok (.istore_n 2, 1) := by decide +kernel
theorem dX8_minutesTo_2 : decode cX8_minutesTo 2 = .ok (.iload_n 2, 1) := by decide +kernel
theorem dX8_minutesTo_3 : decode cX8_minutesTo 3 = .ok (.bipush 60, 2) := by decide +kernel
theorem dX8_minutesTo_5 : decode cX8_minutesTo 5 = .ok (.if_icmp .gt 30, 3) := by decide +kernel
theorem dX8_minutesTo_8 : decode cX8_minutesTo 8 = .ok (.aload_n 0, 1) := by decide +kernel
theorem dX8_minutesTo_9 : decode cX8_minutesTo 9 = .ok (.getfield 22, 3) := by decide +kernel
theorem dX8_minutesTo_12 : decode cX8_minutesTo 12 = .ok (.iconst 1, 1) := by decide +kernel
theorem dX8_minutesTo_13 : decode cX8_minutesTo 13 = .ok (.invokevirtual 185, 3) := by decide +kernel
theorem dX8_minutesTo_16 : decode cX8_minutesTo 16 = .ok (.aload_n 0, 1) := by decide +kernel
theorem dX8_minutesTo_17 : decode cX8_minutesTo 17 = .ok (.getfield 22, 3) := by decide +kernel
theorem dX8_minutesTo_20 : decode cX8_minutesTo 20 = .ok (.iload_n 1, 1) := by decide +kernel
theorem dX8_minutesTo_21 : decode cX8_minutesTo 21 = .ok (.invokevirtual 311, 3) := by decide +kernel
theorem dX8_minutesTo_24 : decode cX8_minutesTo 24 = .ok (.ifCond .ne 5, 3) := by decide +kernel
theorem dX8_minutesTo_27 : decode cX8_minutesTo 27 = .ok (.iload_n 2, 1) := by decide +kernel
theorem dX8_minutesTo_28 : decode cX8_minutesTo 28 = .ok (.ireturn, 1) := by decide +kernel
theorem dX8_minutesTo_29 : decode cX8_minutesTo 29 = .ok (.iinc 2 1, 3) := by decide +kernel
theorem dX8_minutesTo_32 : decode cX8_minutesTo 32 = .ok (.goto (-30), 3) := by decide +kernel
theorem dX8_minutesTo_35 : decode cX8_minutesTo 35 = .ok (.bipush (-5), 2) := by decide +kernel
theorem dX8_minutesTo_37 : decode cX8_minutesTo 37 = .ok (.ireturn, 1) := by decide +kernel
set_option maxRecDepth 20000 in
theorem ggX8_whoGoesTo_X1_gives : GoodIn wsX8_whoGoesTo wsX1_gives := goodIn_r _ [6, 7, 8, 9, 10, 5, 11, 12, 13, 14, 15, 16, 17, 18, 19, 20, 21, 22, 23, 24, 25, 26, 27, 28, 29, 30, 31, 32, 33, 34, 35, 36, 37, 38, 39, 40, 41, 42, 43, 44, 45, 46, 47, 48, 49, 50, 51, 52, 53, 54, 55, 56, 57, 58, 72, 73, 74, 75, 76, 77, 78, 79, 80, 81, 82, 83, 84, 85, 86, 87, 88, 89, 90, 91] (by decide +kernel) (by decide +kernel)
set_option maxRecDepth 20000 in
theorem gX8_whoGoesTo_X1_gives : GoodIn wsX8_whoGoesTo (wsV RX8 230 RX1 yX1_gives wsX1_gives) := goodIn_app (goodIn_of _ (by decide +kernel)) ggX8_whoGoesTo_X1_gives
set_option maxRecDepth 20000 in
theorem ggX8_whoGoesTo_X1_whoseGoal : GoodIn wsX8_whoGoesTo wsX1_whoseGoal := goodIn_r _ [20, 21, 7, 72, 73, 74, 75, 76, 77, 78, 79, 80, 81, 82, 83, 84, 85, 86, 87, 88] (by decide +kernel) (by decide +kernel)
set_option maxRecDepth 20000 in
theorem gX8_whoGoesTo_X1_whoseGoal : GoodIn wsX8_whoGoesTo (wsV RX8 314 RX1 yX1_whoseGoal wsX1_whoseGoal) := goodIn_app (goodIn_of _ (by decide +kernel)) ggX8_whoGoesTo_X1_whoseGoal
theorem dX8_whoGoesTo_0 : decode cX8_whoGoesTo 0 = .ok (.aload_n 0, 1) := by decide +kernel
theorem dX8_whoGoesTo_1 : decode cX8_whoGoesTo 1 = .ok (.getfield 22, 3) := by decide +kernel
theorem dX8_whoGoesTo_4 : decode cX8_whoGoesTo 4 = .ok (.invokevirtual 230, 3) := by decide +kernel
theorem dX8_whoGoesTo_7 : decode cX8_whoGoesTo 7 = .ok (.aload_n 0, 1) := by decide +kernel
theorem dX8_whoGoesTo_8 : decode cX8_whoGoesTo 8 = .ok (.getfield 22, 3) := by decide +kernel
theorem dX8_whoGoesTo_11 : decode cX8_whoGoesTo 11 = .ok (.iload_n 1, 1) := by decide +kernel
theorem dX8_whoGoesTo_12 : decode cX8_whoGoesTo 12 = .ok (.invokevirtual 314, 3) := by decide +kernel
theorem dX8_whoGoesTo_15 : decode cX8_whoGoesTo 15 = .ok (.ireturn, 1) := by decide +kernel
set_option maxRecDepth 20000 in
theorem ggX8_standsBest_X1_copies : GoodIn wsX8_standsBest wsX1_copies := goodIn_r _ [10, 11, 12, 13, 14, 15, 16, 17, 18, 19, 20, 21, 22, 23, 24, 25, 26, 27, 28, 29, 30, 31, 32, 33, 34, 35, 116, 117, 118, 119, 120, 121, 122, 123, 124, 125, 126, 127, 128, 129, 130, 131, 132] (by decide +kernel) (by decide +kernel)
set_option maxRecDepth 20000 in
theorem gX8_standsBest_X1_copies : GoodIn wsX8_standsBest (wsV RX8 189 RX1 yX1_copies wsX1_copies) := goodIn_app (goodIn_of _ (by decide +kernel)) ggX8_standsBest_X1_copies
set_option maxRecDepth 20000 in
theorem ggX8_standsBest_X1_goes : GoodIn wsX8_standsBest wsX1_goes := goodIn_r _ [39, 20, 16, 40, 22, 21, 41, 29, 30, 31, 23, 42, 43, 44, 9, 45, 14, 46, 47, 48, 49, 50, 51, 52, 53, 54, 55, 56, 57, 58, 59, 60, 61, 62, 63, 64, 65, 15, 66, 67, 68, 69, 13, 12, 11, 17, 18, 70, 71, 72, 73, 74, 75, 76, 24, 77, 78, 79, 80, 81, 82, 83, 84, 85, 86, 87, 88, 89, 90, 91, 92, 93, 94, 95, 96, 97, 98, 99, 100, 101, 102, 103, 116, 117, 118, 119, 120, 121, 122, 123, 124, 125, 126, 127, 128, 129, 130, 131, 132, 133, 134, 135] (by decide +kernel) (by decide +kernel)
set_option maxRecDepth 20000 in
theorem gX8_standsBest_X1_goes : GoodIn wsX8_standsBest (wsV RX8 185 RX1 yX1_goes wsX1_goes) := goodIn_app (goodIn_of _ (by decide +kernel)) ggX8_standsBest_X1_goes
theorem dX8_standsBest_0 : decode cX8_standsBest 0 = .ok (.iconst 0, 1) := by decide +kernel
theorem dX8_standsBest_1 : decode cX8_standsBest 1 = .ok (.istore_n 2, 1) := by decide +kernel
theorem dX8_standsBest_2 : decode cX8_standsBest 2 = .ok (.ldc 21, 2) := by decide +kernel
theorem dX8_standsBest_4 : decode cX8_standsBest 4 = .ok (.istore_n 3, 1) := by decide +kernel
theorem dX8_standsBest_5 : decode cX8_standsBest 5 = .ok (.iconst 0, 1) := by decide +kernel
theorem dX8_standsBest_6 : decode cX8_standsBest 6 = .ok (.istore 4, 2) := by decide +kernel
theorem dX8_standsBest_8 : decode cX8_standsBest 8 = .ok (.iload 4, 2) := by decide +kernel
theorem dX8_standsBest_10 : decode cX8_standsBest 10 = .ok (.bipush 10, 2) := by decide +kernel
theorem dX8_standsBest_12 : decode cX8_standsBest 12 = .ok (.if_icmp .ge 62, 3) := by decide +kernel
theorem dX8_standsBest_15 : decode cX8_standsBest 15 = .ok (.aload_n 0, 1) := by decide +kernel
theorem dX8_standsBest_16 : decode cX8_standsBest 16 = .ok (.getfield 22, 3) := by decide +kernel
theorem dX8_standsBest_19 : decode cX8_standsBest 19 = .ok (.aload_n 0, 1) := by decide +kernel
theorem dX8_standsBest_20 : decode cX8_standsBest 20 = .ok (.getfield 17, 3) := by decide +kernel
theorem dX8_standsBest_23 : decode cX8_standsBest 23 = .ok (.invokevirtual 189, 3) := by decide +kernel
theorem dX8_standsBest_26 : decode cX8_standsBest 26 = .ok (.aload_n 0, 1) := by decide +kernel
theorem dX8_standsBest_27 : decode cX8_standsBest 27 = .ok (.getfield 22, 3) := by decide +kernel
theorem dX8_standsBest_30 : decode cX8_standsBest 30 = .ok (.getfield 102, 3) := by decide +kernel
theorem dX8_standsBest_33 : decode cX8_standsBest 33 = .ok (.iload_n 1, 1) := by decide +kernel
theorem dX8_standsBest_34 : decode cX8_standsBest 34 = .ok (.iload 4, 2) := by decide +kernel
theorem dX8_standsBest_36 : decode cX8_standsBest 36 = .ok (.iastore, 1) := by decide +kernel
theorem dX8_standsBest_37 : decode cX8_standsBest 37 = .ok (.aload_n 0, 1) := by decide +kernel
theorem dX8_standsBest_38 : decode cX8_standsBest 38 = .ok (.getfield 22, 3) := by decide +kernel
theorem dX8_standsBest_41 : decode cX8_standsBest 41 = .ok (.bipush 20, 2) := by decide +kernel
theorem dX8_standsBest_43 : decode cX8_standsBest 43 = .ok (.invokevirtual 185, 3) := by decide +kernel
theorem dX8_standsBest_46 : decode cX8_standsBest 46 = .ok (.aload_n 0, 1) := by decide +kernel
theorem dX8_standsBest_47 : decode cX8_standsBest 47 = .ok (.getfield 22, 3) := by decide +kernel
theorem dX8_standsBest_50 : decode cX8_standsBest 50 = .ok (.getfield 172, 3) := by decide +kernel
theorem dX8_standsBest_53 : decode cX8_standsBest 53 = .ok (.iload_n 3, 1) := by decide +kernel
theorem dX8_standsBest_54 : decode cX8_standsBest 54 = .ok (.if_icmp .ge 14, 3) := by decide +kernel
theorem dX8_standsBest_57 : decode cX8_standsBest 57 = .ok (.aload_n 0, 1) := by decide +kernel
theorem dX8_standsBest_58 : decode cX8_standsBest 58 = .ok (.getfield 22, 3) := by decide +kernel
theorem dX8_standsBest_61 : decode cX8_standsBest 61 = .ok (.getfield 172, 3) := by decide +kernel
theorem dX8_standsBest_64 : decode cX8_standsBest 64 = .ok (.istore_n 3, 1) := by decide +kernel
theorem dX8_standsBest_65 : decode cX8_standsBest 65 = .ok (.iload 4, 2) := by decide +kernel
theorem dX8_standsBest_67 : decode cX8_standsBest 67 = .ok (.istore_n 2, 1) := by decide +kernel
theorem dX8_standsBest_68 : decode cX8_standsBest 68 = .ok (.iinc 4 1, 3) := by decide +kernel
theorem dX8_standsBest_71 : decode cX8_standsBest 71 = .ok (.goto (-63), 3) := by decide +kernel
theorem dX8_standsBest_74 : decode cX8_standsBest 74 = .ok (.iload_n 2, 1) := by decide +kernel
theorem dX8_standsBest_75 : decode cX8_standsBest 75 = .ok (.ireturn, 1) := by decide +kernel
set_option maxRecDepth 20000 in
theorem ggX8_allIsSeen_X8_isSeenAfter : GoodIn wsX8_allIsSeen wsX8_isSeenAfter := goodIn_r _ [6, 7, 8, 9, 10, 1, 11, 12, 13, 99, 100, 101, 102, 103, 104, 105, 106, 107, 108, 109, 110, 111, 112, 113, 114, 115, 116, 117, 118, 119, 120, 121, 122, 123, 124, 125, 126, 127, 128, 129, 130, 131, 132, 133, 134] (by decide +kernel) (by decide +kernel)
set_option maxRecDepth 20000 in
theorem gX8_allIsSeen_X8_isSeenAfter : GoodIn wsX8_allIsSeen (wsV RX8 317 RX8 yX8_isSeenAfter wsX8_isSeenAfter) := goodIn_app (goodIn_of _ (by decide +kernel)) ggX8_allIsSeen_X8_isSeenAfter
set_option maxRecDepth 20000 in
theorem ggX8_allIsSeen_X1_goes : GoodIn wsX8_allIsSeen wsX1_goes := goodIn_r _ [18, 19, 20, 21, 22, 23, 24, 25, 26, 27, 28, 29, 30, 31, 17, 32, 33, 34, 35, 36, 37, 38, 39, 40, 41, 42, 43, 44, 45, 46, 47, 48, 49, 50, 51, 52, 53, 54, 55, 56, 57, 58, 59, 60, 61, 62, 63, 64, 65, 66, 67, 68, 69, 70, 71, 72, 73, 74, 75, 76, 77, 78, 79, 80, 81, 82, 83, 84, 85, 86, 87, 88, 89, 90, 91, 92, 93, 94, 95, 96, 97, 98, 118, 119, 120, 121, 122, 123, 124, 125, 126, 127, 128, 129, 130, 131, 132, 133, 134, 135, 136, 137] (by decide +kernel) (by decide +kernel)
set_option maxRecDepth 20000 in
theorem gX8_allIsSeen_X1_goes : GoodIn wsX8_allIsSeen (wsV RX8 185 RX1 yX1_goes wsX1_goes) := goodIn_app (goodIn_of _ (by decide +kernel)) ggX8_allIsSeen_X1_goes
theorem dX8_allIsSeen_0 : decode cX8_allIsSeen 0 = .ok (.iconst 0, 1) := by decide +kernel
theorem dX8_allIsSeen_1 : decode cX8_allIsSeen 1 = .ok (.istore_n 1, 1) := by decide +kernel
theorem dX8_allIsSeen_2 : decode cX8_allIsSeen 2 = .ok (.iload_n 1, 1) := by decide +kernel
theorem dX8_allIsSeen_3 : decode cX8_allIsSeen 3 = .ok (.bipush 20, 2) := by decide +kernel
theorem dX8_allIsSeen_5 : decode cX8_allIsSeen 5 = .ok (.if_icmp .gt 27, 3) := by decide +kernel
theorem dX8_allIsSeen_8 : decode cX8_allIsSeen 8 = .ok (.aload_n 0, 1) := by decide +kernel
theorem dX8_allIsSeen_9 : decode cX8_allIsSeen 9 = .ok (.iload_n 1, 1) := by decide +kernel
theorem dX8_allIsSeen_10 : decode cX8_allIsSeen 10 = .ok (.invokevirtual 317, 3) := by decide +kernel
theorem dX8_allIsSeen_13 : decode cX8_allIsSeen 13 = .ok (.ifCond .ne 5, 3) := by decide +kernel
theorem dX8_allIsSeen_16 : decode cX8_allIsSeen 16 = .ok (.iconst 0, 1) := by decide +kernel
