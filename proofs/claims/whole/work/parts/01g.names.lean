theorem dX9_takesHead_67 : decode cX9_takesHead 67 = .ok (.aload_n 0, 1) := by decide +kernel
theorem dX9_takesHead_68 : decode cX9_takesHead 68 = .ok (.bipush 8, 2) := by decide +kernel
theorem dX9_takesHead_70 : decode cX9_takesHead 70 = .ok (.iconst 4, 1) := by decide +kernel
theorem dX9_takesHead_71 : decode cX9_takesHead 71 = .ok (.invokevirtual 320, 3) := by decide +kernel
theorem dX9_takesHead_74 : decode cX9_takesHead 74 = .ok (.ireturn, 1) := by decide +kernel
set_option maxRecDepth 20000 in
theorem ggX9_takesClause_X9_takesHead : GoodIn wsX9_takesClause wsX9_takesHead := goodIn_r _ [8, 3, 9, 10, 11, 7, 12, 13, 14, 15, 16, 17, 18, 19, 20, 21, 22, 23, 24, 68, 69, 70, 71, 72, 73, 74, 75, 76, 77, 78, 79, 80, 81, 82, 83, 84, 85, 86, 87, 88, 89, 90, 91, 92, 93, 94, 95, 96, 97, 98, 99, 100, 101, 102, 103, 104, 105, 106, 107, 108, 109, 110, 111, 112, 113, 114, 115, 116, 117, 118, 119, 120, 121, 122, 123, 124, 125, 126, 127, 128, 129, 130, 131, 132, 133, 134, 135, 136, 137, 138, 139, 140, 141, 142, 143, 144, 145, 146, 147, 148, 149, 150, 151, 152] (by decide +kernel) (by decide +kernel)
set_option maxRecDepth 20000 in
theorem gX9_takesClause_X9_takesHead : GoodIn wsX9_takesClause (wsV RX9 323 RX9 yX9_takesHead wsX9_takesHead) := goodIn_app (goodIn_of _ (by decide +kernel)) ggX9_takesClause_X9_takesHead
set_option maxRecDepth 20000 in
theorem ggX9_takesClause_X9_takesNumber : GoodIn wsX9_takesClause wsX9_takesNumber := goodIn_r _ [28, 2, 13, 29, 30, 31, 7, 32, 9, 10, 11, 12, 14, 15, 33, 34, 35, 36, 68, 69, 70, 71, 72, 73, 74, 75, 76, 77, 78, 79, 80, 81, 82, 83, 84, 85, 86, 87, 88, 89, 90, 91, 92, 93, 94, 95, 96, 97, 98, 99, 100, 101, 102, 103, 104, 105, 106, 107, 108, 109, 110, 111, 112, 113, 114, 115, 116, 117, 118, 119, 120, 121, 122, 123, 124, 125, 126, 127, 128, 129, 130, 131, 132, 133, 134, 135, 136, 137, 138, 139, 140, 141, 142, 143, 144, 145, 146, 147, 148, 149, 150, 151, 152] (by decide +kernel) (by decide +kernel)
set_option maxRecDepth 20000 in
theorem gX9_takesClause_X9_takesNumber : GoodIn wsX9_takesClause (wsV RX9 308 RX9 yX9_takesNumber wsX9_takesNumber) := goodIn_app (goodIn_of _ (by decide +kernel)) ggX9_takesClause_X9_takesNumber
set_option maxRecDepth 20000 in
theorem ggX9_takesClause_X9_takes : GoodIn wsX9_takesClause wsX9_takes := goodIn_r _ [24, 13, 9, 10, 11, 7, 12, 14, 15, 68, 69, 70, 71, 72, 73, 74, 75, 76, 77, 78, 79, 80, 81, 82, 83, 84, 85, 86, 87, 88, 89, 90, 91, 92, 93, 94, 95, 96, 97, 98, 99, 100, 101, 102, 103, 104, 105, 106, 107, 108, 109, 110, 111, 112, 113, 114, 115, 116, 117, 118, 119, 120, 121, 122, 123, 124, 125, 126, 127, 128, 129, 130, 131, 132, 133, 134, 135, 136, 137, 138, 139, 140, 141, 142, 143, 144, 145, 146, 147, 148, 149, 150, 151, 152] (by decide +kernel) (by decide +kernel)
set_option maxRecDepth 20000 in
theorem gX9_takesClause_X9_takes : GoodIn wsX9_takesClause (wsV RX9 293 RX9 yX9_takes wsX9_takes) := goodIn_app (goodIn_of _ (by decide +kernel)) ggX9_takesClause_X9_takes
set_option maxRecDepth 20000 in
theorem ggX9_takesClause_X9_takesE : GoodIn wsX9_takesClause wsX9_takesE := goodIn_r _ [40, 41, 42, 43, 44, 45, 13, 46, 9, 10, 11, 7, 12, 14, 15, 47, 48, 49, 50, 2, 51, 52, 53, 54, 33, 34, 35, 36, 25, 26, 27, 28, 29, 30, 31, 32, 55, 56, 57, 58, 59, 60, 61, 62, 63, 64, 65, 66, 67, 68, 69, 70, 71, 72, 73, 74, 75, 76, 77, 78, 79, 80, 81, 82, 83, 84, 85, 86, 87, 88, 89, 90, 91, 92, 93, 94, 95, 96, 97, 98, 99, 100, 101, 102, 103, 104, 105, 106, 107, 108, 109, 110, 111, 112, 113, 114, 115, 116, 117, 118, 119, 120, 121, 122, 123, 124, 125, 126, 127, 128, 129, 130, 131, 132, 133, 134, 135, 136, 137, 138, 139, 140, 141, 142, 143, 144, 145, 146, 147, 148, 149, 150, 151, 152] (by decide +kernel) (by decide +kernel)
set_option maxRecDepth 20000 in
theorem gX9_takesClause_X9_takesE : GoodIn wsX9_takesClause (wsV RX9 326 RX9 yX9_takesE wsX9_takesE) := goodIn_app (goodIn_of _ (by decide +kernel)) ggX9_takesClause_X9_takesE
theorem dX9_takesClause_0 : decode cX9_takesClause 0 = .ok (.aload_n 0, 1) := by decide +kernel
theorem dX9_takesClause_1 : decode cX9_takesClause 1 = .ok (.iload_n 1, 1) := by decide +kernel
theorem dX9_takesClause_2 : decode cX9_takesClause 2 = .ok (.invokevirtual 323, 3) := by decide +kernel
theorem dX9_takesClause_5 : decode cX9_takesClause 5 = .ok (.ifCond .eq 10, 3) := by decide +kernel
theorem dX9_takesClause_8 : decode cX9_takesClause 8 = .ok (.aload_n 0, 1) := by decide +kernel
theorem dX9_takesClause_9 : decode cX9_takesClause 9 = .ok (.invokevirtual 308, 3) := by decide +kernel
theorem dX9_takesClause_12 : decode cX9_takesClause 12 = .ok (.ifCond .ne 5, 3) := by decide +kernel
theorem dX9_takesClause_15 : decode cX9_takesClause 15 = .ok (.iconst 0, 1) := by decide +kernel
theorem dX9_takesClause_16 : decode cX9_takesClause 16 = .ok (.ireturn, 1) := by decide +kernel
theorem dX9_takesClause_17 : decode cX9_takesClause 17 = .ok (.aload_n 0, 1) := by decide +kernel
theorem dX9_takesClause_18 : decode cX9_takesClause 18 = .ok (.getfield 74, 3) := by decide +kernel
theorem dX9_takesClause_21 : decode cX9_takesClause 21 = .ok (.iload_n 1, 1) := by decide +kernel
theorem dX9_takesClause_22 : decode cX9_takesClause 22 = .ok (.aload_n 0, 1) := by decide +kernel
theorem dX9_takesClause_23 : decode cX9_takesClause 23 = .ok (.getfield 62, 3) := by decide +kernel
theorem dX9_takesClause_26 : decode cX9_takesClause 26 = .ok (.iastore, 1) := by decide +kernel
theorem dX9_takesClause_27 : decode cX9_takesClause 27 = .ok (.aload_n 0, 1) := by decide +kernel
theorem dX9_takesClause_28 : decode cX9_takesClause 28 = .ok (.getfield 71, 3) := by decide +kernel
theorem dX9_takesClause_31 : decode cX9_takesClause 31 = .ok (.iload_n 1, 1) := by decide +kernel
theorem dX9_takesClause_32 : decode cX9_takesClause 32 = .ok (.iaload, 1) := by decide +kernel
theorem dX9_takesClause_33 : decode cX9_takesClause 33 = .ok (.iconst 2, 1) := by decide +kernel
theorem dX9_takesClause_34 : decode cX9_takesClause 34 = .ok (.if_icmp .eq 20, 3) := by decide +kernel
theorem dX9_takesClause_37 : decode cX9_takesClause 37 = .ok (.aload_n 0, 1) := by decide +kernel
theorem dX9_takesClause_38 : decode cX9_takesClause 38 = .ok (.bipush 32, 2) := by decide +kernel
theorem dX9_takesClause_40 : decode cX9_takesClause 40 = .ok (.invokevirtual 293, 3) := by decide +kernel
theorem dX9_takesClause_43 : decode cX9_takesClause 43 = .ok (.ifCond .eq 15, 3) := by decide +kernel
theorem dX9_takesClause_46 : decode cX9_takesClause 46 = .ok (.aload_n 0, 1) := by decide +kernel
theorem dX9_takesClause_47 : decode cX9_takesClause 47 = .ok (.iload_n 1, 1) := by decide +kernel
theorem dX9_takesClause_48 : decode cX9_takesClause 48 = .ok (.invokevirtual 326, 3) := by decide +kernel
theorem dX9_takesClause_51 : decode cX9_takesClause 51 = .ok (.ifCond .eq 7, 3) := by decide +kernel
theorem dX9_takesClause_54 : decode cX9_takesClause 54 = .ok (.iconst 1, 1) := by decide +kernel
theorem dX9_takesClause_55 : decode cX9_takesClause 55 = .ok (.goto 4, 3) := by decide +kernel
theorem dX9_takesClause_58 : decode cX9_takesClause 58 = .ok (.iconst 0, 1) := by decide +kernel
theorem dX9_takesClause_59 : decode cX9_takesClause 59 = .ok (.ireturn, 1) := by decide +kernel
set_option maxRecDepth 20000 in
theorem ggX9_goesText_X9_takesClause : GoodIn wsX9_goesText wsX9_takesClause := goodIn_r _ [9, 10, 11, 12, 13, 14, 15, 8, 16, 17, 18, 19, 20, 1, 4, 21, 22, 23, 24, 25, 26, 27, 28, 29, 30, 31, 32, 33, 34, 35, 36, 37, 38, 39, 40, 41, 42, 43, 44, 45, 46, 47, 48, 49, 2, 50, 51, 52, 53, 54, 55, 56, 57, 58, 59, 60, 61, 62, 63, 64, 65, 66, 67, 68, 69, 70, 71, 72, 73, 74, 75, 76, 77, 78, 79, 80, 81, 82, 83, 84, 85, 86, 87, 88, 89, 90, 91, 92, 93, 94, 95, 96, 97, 98, 99, 100, 101, 102, 103, 104, 105, 106, 107, 108, 109, 110, 111, 112, 113, 114, 115, 116, 117, 118, 119, 120, 121, 122, 123, 124, 125, 126, 127, 128, 129, 130, 131, 132, 133, 134, 135, 136, 137, 138, 139, 140, 141, 142, 143, 144, 145, 146, 147, 148, 149, 150, 151, 152, 153, 154, 155, 156, 157] (by decide +kernel) (by decide +kernel)
set_option maxRecDepth 20000 in
theorem gX9_goesText_X9_takesClause : GoodIn wsX9_goesText (wsV RX9 329 RX9 yX9_takesClause wsX9_takesClause) := goodIn_app (goodIn_of _ (by decide +kernel)) ggX9_goesText_X9_takesClause
set_option maxRecDepth 20000 in
theorem ggX9_goesText_X9_takes : GoodIn wsX9_goesText wsX9_takes := goodIn_r _ [30, 1, 17, 18, 19, 8, 20, 4, 21, 73, 74, 75, 76, 77, 78, 79, 80, 81, 82, 83, 84, 85, 86, 87, 88, 89, 90, 91, 92, 93, 94, 95, 96, 97, 98, 99, 100, 101, 102, 103, 104, 105, 106, 107, 108, 109, 110, 111, 112, 113, 114, 115, 116, 117, 118, 119, 120, 121, 122, 123, 124, 125, 126, 127, 128, 129, 130, 131, 132, 133, 134, 135, 136, 137, 138, 139, 140, 141, 142, 143, 144, 145, 146, 147, 148, 149, 150, 151, 152, 153, 154, 155, 156, 157] (by decide +kernel) (by decide +kernel)
set_option maxRecDepth 20000 in
theorem gX9_goesText_X9_takes : GoodIn wsX9_goesText (wsV RX9 293 RX9 yX9_takes wsX9_takes) := goodIn_app (goodIn_of _ (by decide +kernel)) ggX9_goesText_X9_takes
theorem dX9_goesText_0 : decode cX9_goesText 0 = .ok (.aload_n 0, 1) := by decide +kernel
theorem dX9_goesText_1 : decode cX9_goesText 1 = .ok (.iconst 0, 1) := by decide +kernel
theorem dX9_goesText_2 : decode cX9_goesText 2 = .ok (.putfield 59, 3) := by decide +kernel
theorem dX9_goesText_5 : decode cX9_goesText 5 = .ok (.aload_n 0, 1) := by decide +kernel
theorem dX9_goesText_6 : decode cX9_goesText 6 = .ok (.bipush 100, 2) := by decide +kernel
theorem dX9_goesText_8 : decode cX9_goesText 8 = .ok (.iload_n 1, 1) := by decide +kernel
theorem dX9_goesText_9 : decode cX9_goesText 9 = .ok (.imul, 1) := by decide +kernel
theorem dX9_goesText_10 : decode cX9_goesText 10 = .ok (.putfield 89, 3) := by decide +kernel
theorem dX9_goesText_13 : decode cX9_goesText 13 = .ok (.iconst 0, 1) := by decide +kernel
theorem dX9_goesText_14 : decode cX9_goesText 14 = .ok (.istore_n 2, 1) := by decide +kernel
theorem dX9_goesText_15 : decode cX9_goesText 15 = .ok (.aload_n 0, 1) := by decide +kernel
theorem dX9_goesText_16 : decode cX9_goesText 16 = .ok (.bipush 10, 2) := by decide +kernel
theorem dX9_goesText_18 : decode cX9_goesText 18 = .ok (.iload_n 1, 1) := by decide +kernel
theorem dX9_goesText_19 : decode cX9_goesText 19 = .ok (.imul, 1) := by decide +kernel
theorem dX9_goesText_20 : decode cX9_goesText 20 = .ok (.iload_n 2, 1) := by decide +kernel
theorem dX9_goesText_21 : decode cX9_goesText 21 = .ok (.iadd, 1) := by decide +kernel
theorem dX9_goesText_22 : decode cX9_goesText 22 = .ok (.invokevirtual 329, 3) := by decide +kernel
theorem dX9_goesText_25 : decode cX9_goesText 25 = .ok (.ifCond .ne 5, 3) := by decide +kernel
theorem dX9_goesText_28 : decode cX9_goesText 28 = .ok (.iconst 0, 1) := by decide +kernel
theorem dX9_goesText_29 : decode cX9_goesText 29 = .ok (.ireturn, 1) := by decide +kernel
theorem dX9_goesText_30 : decode cX9_goesText 30 = .ok (.iinc 2 1, 3) := by decide +kernel
theorem dX9_goesText_33 : decode cX9_goesText 33 = .ok (.aload_n 0, 1) := by decide +kernel
theorem dX9_goesText_34 : decode cX9_goesText 34 = .ok (.getfield 68, 3) := by decide +kernel
theorem dX9_goesText_37 : decode cX9_goesText 37 = .ok (.iload_n 1, 1) := by decide +kernel
theorem dX9_goesText_38 : decode cX9_goesText 38 = .ok (.iload_n 2, 1) := by decide +kernel
theorem dX9_goesText_39 : decode cX9_goesText 39 = .ok (.iastore, 1) := by decide +kernel
theorem dX9_goesText_40 : decode cX9_goesText 40 = .ok (.aload_n 0, 1) := by decide +kernel
theorem dX9_goesText_41 : decode cX9_goesText 41 = .ok (.getfield 59, 3) := by decide +kernel
theorem dX9_goesText_44 : decode cX9_goesText 44 = .ok (.aload_n 0, 1) := by decide +kernel
theorem dX9_goesText_45 : decode cX9_goesText 45 = .ok (.getfield 56, 3) := by decide +kernel
theorem dX9_goesText_48 : decode cX9_goesText 48 = .ok (.if_icmp .ne 5, 3) := by decide +kernel
theorem dX9_goesText_51 : decode cX9_goesText 51 = .ok (.iconst 1, 1) := by decide +kernel
theorem dX9_goesText_52 : decode cX9_goesText 52 = .ok (.ireturn, 1) := by decide +kernel
theorem dX9_goesText_53 : decode cX9_goesText 53 = .ok (.iload_n 2, 1) := by decide +kernel
theorem dX9_goesText_54 : decode cX9_goesText 54 = .ok (.bipush 10, 2) := by decide +kernel
theorem dX9_goesText_56 : decode cX9_goesText 56 = .ok (.if_icmp .eq 12, 3) := by decide +kernel
theorem dX9_goesText_59 : decode cX9_goesText 59 = .ok (.aload_n 0, 1) := by decide +kernel
theorem dX9_goesText_60 : decode cX9_goesText 60 = .ok (.bipush 59, 2) := by decide +kernel
theorem dX9_goesText_62 : decode cX9_goesText 62 = .ok (.invokevirtual 293, 3) := by decide +kernel
theorem dX9_goesText_65 : decode cX9_goesText 65 = .ok (.ifCond .ne (-50), 3) := by decide +kernel
theorem dX9_goesText_68 : decode cX9_goesText 68 = .ok (.iconst 0, 1) := by decide +kernel
theorem dX9_goesText_69 : decode cX9_goesText 69 = .ok (.ireturn, 1) := by decide +kernel
set_option maxRecDepth 20000 in
theorem ggX9_house_X9_goesText : GoodIn wsX9_house wsX9_goesText := goodIn_r _ [9, 3, 10, 11, 2, 12, 13, 14, 8, 15, 16, 17, 18, 19, 20, 21, 22, 23, 24, 25, 26, 27, 28, 29, 30, 31, 32, 33, 34, 35, 36, 37, 38, 39, 40, 41, 42, 43, 44, 45, 46, 47, 48, 49, 50, 51, 52, 53, 54, 55, 56, 57, 58, 59, 60, 61, 62, 63, 64, 65, 66, 67, 68, 69, 70, 71, 72, 73, 74, 75, 76, 77, 78, 79, 80, 81, 82, 83, 84, 85, 86, 87, 88, 89, 90, 91, 92, 93, 94, 95, 96, 97, 98, 99, 100, 101, 102, 103, 104, 105, 106, 107, 108, 109, 110, 111, 112, 113, 114, 115, 116, 117, 118, 119, 120, 121, 122, 123, 124, 125, 126, 127, 128, 129, 130, 131, 132, 133, 134, 135, 136, 137, 138, 139, 140, 141, 142, 143, 144, 145, 146, 147, 148, 149, 150, 151, 152, 153, 154, 155, 156, 157, 158, 159, 160, 161, 162, 163] (by decide +kernel) (by decide +kernel)
set_option maxRecDepth 20000 in
theorem gX9_house_X9_goesText : GoodIn wsX9_house (wsV RX9 332 RX9 yX9_goesText wsX9_goesText) := goodIn_app (goodIn_of _ (by decide +kernel)) ggX9_house_X9_goesText
theorem dX9_house_0 : decode cX9_house 0 = .ok (.aload_n 0, 1) := by decide +kernel
theorem dX9_house_1 : decode cX9_house 1 = .ok (.getfield 50, 3) := by decide +kernel
theorem dX9_house_4 : decode cX9_house 4 = .ok (.bipush 6, 2) := by decide +kernel
theorem dX9_house_6 : decode cX9_house 6 = .ok (.if_icmp .ne 6, 3) := by decide +kernel
theorem dX9_house_9 : decode cX9_house 9 = .ok (.bipush (-4), 2) := by decide +kernel
theorem dX9_house_11 : decode cX9_house 11 = .ok (.ireturn, 1) := by decide +kernel
theorem dX9_house_12 : decode cX9_house 12 = .ok (.aload_n 0, 1) := by decide +kernel
theorem dX9_house_13 : decode cX9_house 13 = .ok (.aload_n 0, 1) := by decide +kernel
theorem dX9_house_14 : decode cX9_house 14 = .ok (.getfield 50, 3) := by decide +kernel
theorem dX9_house_17 : decode cX9_house 17 = .ok (.invokevirtual 332, 3) := by decide +kernel
theorem dX9_house_20 : decode cX9_house 20 = .ok (.istore_n 1, 1) := by decide +kernel
theorem dX9_house_21 : decode cX9_house 21 = .ok (.aload_n 0, 1) := by decide +kernel
theorem dX9_house_22 : decode cX9_house 22 = .ok (.iconst 0, 1) := by decide +kernel
theorem dX9_house_23 : decode cX9_house 23 = .ok (.putfield 56, 3) := by decide +kernel
theorem dX9_house_26 : decode cX9_house 26 = .ok (.iload_n 1, 1) := by decide +kernel
theorem dX9_house_27 : decode cX9_house 27 = .ok (.ifCond .ne 11, 3) := by decide +kernel
theorem dX9_house_30 : decode cX9_house 30 = .ok (.bipush (-10), 2) := by decide +kernel
theorem dX9_house_32 : decode cX9_house 32 = .ok (.aload_n 0, 1) := by decide +kernel
theorem dX9_house_33 : decode cX9_house 33 = .ok (.getfield 59, 3) := by decide +kernel
theorem dX9_house_36 : decode cX9_house 36 = .ok (.isub, 1) := by decide +kernel
theorem dX9_house_37 : decode cX9_house 37 = .ok (.ireturn, 1) := by decide +kernel
theorem dX9_house_38 : decode cX9_house 38 = .ok (.aload_n 0, 1) := by decide +kernel
theorem dX9_house_39 : decode cX9_house 39 = .ok (.aload_n 0, 1) := by decide +kernel
theorem dX9_house_40 : decode cX9_house 40 = .ok (.getfield 50, 3) := by decide +kernel
theorem dX9_house_43 : decode cX9_house 43 = .ok (.putfield 53, 3) := by decide +kernel
theorem dX9_house_46 : decode cX9_house 46 = .ok (.aload_n 0, 1) := by decide +kernel
theorem dX9_house_47 : decode cX9_house 47 = .ok (.dup, 1) := by decide +kernel
theorem dX9_house_48 : decode cX9_house 48 = .ok (.getfield 50, 3) := by decide +kernel
theorem dX9_house_51 : decode cX9_house 51 = .ok (.iconst 1, 1) := by decide +kernel
theorem dX9_house_52 : decode cX9_house 52 = .ok (.iadd, 1) := by decide +kernel
theorem dX9_house_53 : decode cX9_house 53 = .ok (.putfield 50, 3) := by decide +kernel
theorem dX9_house_56 : decode cX9_house 56 = .ok (.aload_n 0, 1) := by decide +kernel
theorem dX9_house_57 : decode cX9_house 57 = .ok (.getfield 53, 3) := by decide +kernel
theorem dX9_house_60 : decode cX9_house 60 = .ok (.ireturn, 1) := by decide +kernel
theorem dX9_begin_0 : decode cX9_begin 0 = .ok (.aload_n 0, 1) := by decide +kernel
theorem dX9_begin_1 : decode cX9_begin 1 = .ok (.getfield 53, 3) := by decide +kernel
theorem dX9_begin_4 : decode cX9_begin 4 = .ok (.ifCond .ge 7, 3) := by decide +kernel
theorem dX9_begin_7 : decode cX9_begin 7 = .ok (.iconst 0, 1) := by decide +kernel
theorem dX9_begin_8 : decode cX9_begin 8 = .ok (.goto 10, 3) := by decide +kernel
theorem dX9_begin_11 : decode cX9_begin 11 = .ok (.bipush 10, 2) := by decide +kernel
theorem dX9_begin_13 : decode cX9_begin 13 = .ok (.aload_n 0, 1) := by decide +kernel
theorem dX9_begin_14 : decode cX9_begin 14 = .ok (.getfield 53, 3) := by decide +kernel
theorem dX9_begin_17 : decode cX9_begin 17 = .ok (.imul, 1) := by decide +kernel
theorem dX9_begin_18 : decode cX9_begin 18 = .ok (.ireturn, 1) := by decide +kernel
theorem dX9_behind_0 : decode cX9_behind 0 = .ok (.aload_n 0, 1) := by decide +kernel
theorem dX9_behind_1 : decode cX9_behind 1 = .ok (.getfield 53, 3) := by decide +kernel
theorem dX9_behind_4 : decode cX9_behind 4 = .ok (.ifCond .ge 7, 3) := by decide +kernel
theorem dX9_behind_7 : decode cX9_behind 7 = .ok (.iconst 0, 1) := by decide +kernel
theorem dX9_behind_8 : decode cX9_behind 8 = .ok (.goto 20, 3) := by decide +kernel
theorem dX9_behind_11 : decode cX9_behind 11 = .ok (.bipush 10, 2) := by decide +kernel
theorem dX9_behind_13 : decode cX9_behind 13 = .ok (.aload_n 0, 1) := by decide +kernel
theorem dX9_behind_14 : decode cX9_behind 14 = .ok (.getfield 53, 3) := by decide +kernel
theorem dX9_behind_17 : decode cX9_behind 17 = .ok (.imul, 1) := by decide +kernel
theorem dX9_behind_18 : decode cX9_behind 18 = .ok (.aload_n 0, 1) := by decide +kernel
theorem dX9_behind_19 : decode cX9_behind 19 = .ok (.getfield 68, 3) := by decide +kernel
theorem dX9_behind_22 : decode cX9_behind 22 = .ok (.aload_n 0, 1) := by decide +kernel
theorem dX9_behind_23 : decode cX9_behind 23 = .ok (.getfield 53, 3) := by decide +kernel
theorem dX9_behind_26 : decode cX9_behind 26 = .ok (.iaload, 1) := by decide +kernel
theorem dX9_behind_27 : decode cX9_behind 27 = .ok (.iadd, 1) := by decide +kernel
theorem dX9_behind_28 : decode cX9_behind 28 = .ok (.ireturn, 1) := by decide +kernel
set_option maxRecDepth 20000 in
theorem ggX9_rest_X9_begin : GoodIn wsX9_rest wsX9_begin := goodIn_r _ [7, 8, 14, 15, 16, 17, 18, 19, 20, 21, 22, 23, 24, 25, 26, 27, 28, 29, 30, 31, 32, 33, 34, 35, 36, 37, 38, 39, 40, 41, 42, 43, 44, 45, 46, 47, 48, 49, 50, 51, 52, 53, 54, 55, 56, 57, 58, 59, 60, 61, 62, 63, 64, 65, 66, 67, 68, 69, 70, 71, 72, 73, 74, 75, 76, 77, 78, 79, 80, 81, 82, 83, 84, 85, 86, 87, 88, 89, 90, 91, 92, 93, 94, 95, 96, 97, 98] (by decide +kernel) (by decide +kernel)
set_option maxRecDepth 20000 in
theorem gX9_rest_X9_begin : GoodIn wsX9_rest (wsV RX9 335 RX9 yX9_begin wsX9_begin) := goodIn_app (goodIn_of _ (by decide +kernel)) ggX9_rest_X9_begin
set_option maxRecDepth 20000 in
theorem ggX9_rest_X9_behind : GoodIn wsX9_rest wsX9_behind := goodIn_r _ [12, 8, 13, 14, 15, 16, 17, 18, 19, 20, 21, 22, 23, 24, 25, 26, 27, 28, 29, 30, 31, 32, 33, 34, 35, 36, 37, 38, 39, 40, 41, 42, 43, 44, 45, 46, 47, 48, 49, 50, 51, 52, 53, 54, 55, 56, 57, 58, 59, 60, 61, 62, 63, 64, 65, 66, 67, 68, 69, 70, 71, 72, 73, 74, 75, 76, 77, 78, 79, 80, 81, 82, 83, 84, 85, 86, 87, 88, 89, 90, 91, 92, 93, 94, 95, 96, 97, 98] (by decide +kernel) (by decide +kernel)
set_option maxRecDepth 20000 in
theorem gX9_rest_X9_behind : GoodIn wsX9_rest (wsV RX9 338 RX9 yX9_behind wsX9_behind) := goodIn_app (goodIn_of _ (by decide +kernel)) ggX9_rest_X9_behind
theorem dX9_rest_0 : decode cX9_rest 0 = .ok (.iconst 2, 1) := by decide +kernel
theorem dX9_rest_1 : decode cX9_rest 1 = .ok (.istore_n 1, 1) := by decide +kernel
theorem dX9_rest_2 : decode cX9_rest 2 = .ok (.aload_n 0, 1) := by decide +kernel
theorem dX9_rest_3 : decode cX9_rest 3 = .ok (.invokevirtual 335, 3) := by decide +kernel
theorem dX9_rest_6 : decode cX9_rest 6 = .ok (.istore_n 2, 1) := by decide +kernel
theorem dX9_rest_7 : decode cX9_rest 7 = .ok (.iload_n 2, 1) := by decide +kernel
theorem dX9_rest_8 : decode cX9_rest 8 = .ok (.aload_n 0, 1) := by decide +kernel
theorem dX9_rest_9 : decode cX9_rest 9 = .ok (.invokevirtual 338, 3) := by decide +kernel
theorem dX9_rest_12 : decode cX9_rest 12 = .ok (.if_icmp .ge 30, 3) := by decide +kernel
theorem dX9_rest_15 : decode cX9_rest 15 = .ok (.aload_n 0, 1) := by decide +kernel
theorem dX9_rest_16 : decode cX9_rest 16 = .ok (.getfield 71, 3) := by decide +kernel
theorem dX9_rest_19 : decode cX9_rest 19 = .ok (.iload_n 2, 1) := by decide +kernel
theorem dX9_rest_20 : decode cX9_rest 20 = .ok (.iaload, 1) := by decide +kernel
theorem dX9_rest_21 : decode cX9_rest 21 = .ok (.iconst 2, 1) := by decide +kernel
theorem dX9_rest_22 : decode cX9_rest 22 = .ok (.if_icmp .ne 12, 3) := by decide +kernel
theorem dX9_rest_25 : decode cX9_rest 25 = .ok (.aload_n 0, 1) := by decide +kernel
theorem dX9_rest_26 : decode cX9_rest 26 = .ok (.getfield 74, 3) := by decide +kernel
theorem dX9_rest_29 : decode cX9_rest 29 = .ok (.iload_n 2, 1) := by decide +kernel
theorem dX9_rest_30 : decode cX9_rest 30 = .ok (.iaload, 1) := by decide +kernel
theorem dX9_rest_31 : decode cX9_rest 31 = .ok (.goto 4, 3) := by decide +kernel
theorem dX9_rest_34 : decode cX9_rest 34 = .ok (.iload_n 1, 1) := by decide +kernel
theorem dX9_rest_35 : decode cX9_rest 35 = .ok (.istore_n 1, 1) := by decide +kernel
theorem dX9_rest_36 : decode cX9_rest 36 = .ok (.iinc 2 1, 3) := by decide +kernel
theorem dX9_rest_39 : decode cX9_rest 39 = .ok (.goto (-32), 3) := by decide +kernel
theorem dX9_rest_42 : decode cX9_rest 42 = .ok (.iload_n 1, 1) := by decide +kernel
theorem dX9_rest_43 : decode cX9_rest 43 = .ok (.ireturn, 1) := by decide +kernel
set_option maxRecDepth 20000 in
theorem ggX9_factOf_X9_apart : GoodIn wsX9_factOf wsX9_apart := goodIn_r _ [9] (by decide +kernel) (by decide +kernel)
set_option maxRecDepth 20000 in
theorem gX9_factOf_X9_apart : GoodIn wsX9_factOf (wsV RX9 341 RX9 yX9_apart wsX9_apart) := goodIn_app (goodIn_of _ (by decide +kernel)) ggX9_factOf_X9_apart
theorem dX9_factOf_0 : decode cX9_factOf 0 = .ok (.iload_n 1, 1) := by decide +kernel
theorem dX9_factOf_1 : decode cX9_factOf 1 = .ok (.tableswitch 65 0 4 #[35, 37, 44, 51, 53], 35) := by decide +kernel
theorem dX9_factOf_36 : decode cX9_factOf 36 = .ok (.iload_n 2, 1) := by decide +kernel
theorem dX9_factOf_37 : decode cX9_factOf 37 = .ok (.ireturn, 1) := by decide +kernel
theorem dX9_factOf_38 : decode cX9_factOf 38 = .ok (.aload_n 0, 1) := by decide +kernel
theorem dX9_factOf_39 : decode cX9_factOf 39 = .ok (.getfield 25, 3) := by decide +kernel
theorem dX9_factOf_42 : decode cX9_factOf 42 = .ok (.iload_n 2, 1) := by decide +kernel
theorem dX9_factOf_43 : decode cX9_factOf 43 = .ok (.iaload, 1) := by decide +kernel
theorem dX9_factOf_44 : decode cX9_factOf 44 = .ok (.ireturn, 1) := by decide +kernel
theorem dX9_factOf_45 : decode cX9_factOf 45 = .ok (.aload_n 0, 1) := by decide +kernel
theorem dX9_factOf_46 : decode cX9_factOf 46 = .ok (.getfield 29, 3) := by decide +kernel
theorem dX9_factOf_49 : decode cX9_factOf 49 = .ok (.iload_n 2, 1) := by decide +kernel
theorem dX9_factOf_50 : decode cX9_factOf 50 = .ok (.iaload, 1) := by decide +kernel
theorem dX9_factOf_51 : decode cX9_factOf 51 = .ok (.ireturn, 1) := by decide +kernel
theorem dX9_factOf_52 : decode cX9_factOf 52 = .ok (.iload_n 3, 1) := by decide +kernel
theorem dX9_factOf_53 : decode cX9_factOf 53 = .ok (.ireturn, 1) := by decide +kernel
theorem dX9_factOf_54 : decode cX9_factOf 54 = .ok (.aload_n 0, 1) := by decide +kernel
theorem dX9_factOf_55 : decode cX9_factOf 55 = .ok (.aload_n 0, 1) := by decide +kernel
theorem dX9_factOf_56 : decode cX9_factOf 56 = .ok (.getfield 32, 3) := by decide +kernel
theorem dX9_factOf_59 : decode cX9_factOf 59 = .ok (.iload_n 2, 1) := by decide +kernel
theorem dX9_factOf_60 : decode cX9_factOf 60 = .ok (.iaload, 1) := by decide +kernel
theorem dX9_factOf_61 : decode cX9_factOf 61 = .ok (.iload_n 3, 1) := by decide +kernel
theorem dX9_factOf_62 : decode cX9_factOf 62 = .ok (.invokevirtual 341, 3) := by decide +kernel
theorem dX9_factOf_65 : decode cX9_factOf 65 = .ok (.ireturn, 1) := by decide +kernel
theorem dX9_factOf_66 : decode cX9_factOf 66 = .ok (.aload_n 0, 1) := by decide +kernel
theorem dX9_factOf_67 : decode cX9_factOf 67 = .ok (.getfield 22, 3) := by decide +kernel
theorem dX9_factOf_70 : decode cX9_factOf 70 = .ok (.bipush 10, 2) := by decide +kernel
theorem dX9_factOf_72 : decode cX9_factOf 72 = .ok (.irem, 1) := by decide +kernel
theorem dX9_factOf_73 : decode cX9_factOf 73 = .ok (.ireturn, 1) := by decide +kernel
set_option maxRecDepth 20000 in
theorem ggX9_holds_X9_factOf : GoodIn wsX9_holds wsX9_factOf := goodIn_r _ [9, 10, 11, 12, 13, 14, 15, 16, 8, 17, 18, 19, 20, 21, 22, 23, 24, 25, 26, 27, 28, 29, 30, 31, 32, 33, 34, 35, 36, 37, 38, 39, 40, 41, 42, 43, 44, 45, 46, 47, 48, 49, 50, 51, 52, 53, 54, 55, 56, 57, 58, 59, 60, 61, 62, 63, 64, 65, 66, 67, 68, 69, 70, 71, 72, 73, 74, 75, 76, 77, 78, 79, 80, 81, 82, 83, 84, 85, 86, 87, 88, 89, 90, 91, 92, 93, 94, 95, 96, 97, 98, 99, 100, 101, 102] (by decide +kernel) (by decide +kernel)
set_option maxRecDepth 20000 in
theorem gX9_holds_X9_factOf : GoodIn wsX9_holds (wsV RX9 345 RX9 yX9_factOf wsX9_factOf) := goodIn_app (goodIn_of _ (by decide +kernel)) ggX9_holds_X9_factOf
theorem dX9_holds_0 : decode cX9_holds 0 = .ok (.iconst 0, 1) := by decide +kernel
theorem dX9_holds_1 : decode cX9_holds 1 = .ok (.istore 4, 2) := by decide +kernel
theorem dX9_holds_3 : decode cX9_holds 3 = .ok (.aload_n 0, 1) := by decide +kernel
theorem dX9_holds_4 : decode cX9_holds 4 = .ok (.getfield 77, 3) := by decide +kernel
theorem dX9_holds_7 : decode cX9_holds 7 = .ok (.iload_n 1, 1) := by decide +kernel
theorem dX9_holds_8 : decode cX9_holds 8 = .ok (.iaload, 1) := by decide +kernel
theorem dX9_holds_9 : decode cX9_holds 9 = .ok (.istore 5, 2) := by decide +kernel
theorem dX9_holds_11 : decode cX9_holds 11 = .ok (.iload 5, 2) := by decide +kernel
theorem dX9_holds_13 : decode cX9_holds 13 = .ok (.aload_n 0, 1) := by decide +kernel
theorem dX9_holds_14 : decode cX9_holds 14 = .ok (.getfield 80, 3) := by decide +kernel
theorem dX9_holds_17 : decode cX9_holds 17 = .ok (.iload_n 1, 1) := by decide +kernel
theorem dX9_holds_18 : decode cX9_holds 18 = .ok (.iaload, 1) := by decide +kernel
theorem dX9_holds_19 : decode cX9_holds 19 = .ok (.if_icmp .ge 234, 3) := by decide +kernel
theorem dX9_holds_22 : decode cX9_holds 22 = .ok (.aload_n 0, 1) := by decide +kernel
theorem dX9_holds_23 : decode cX9_holds 23 = .ok (.getfield 83, 3) := by decide +kernel
theorem dX9_holds_26 : decode cX9_holds 26 = .ok (.iload 5, 2) := by decide +kernel
theorem dX9_holds_28 : decode cX9_holds 28 = .ok (.iaload, 1) := by decide +kernel
theorem dX9_holds_29 : decode cX9_holds 29 = .ok (.istore 6, 2) := by decide +kernel
theorem dX9_holds_31 : decode cX9_holds 31 = .ok (.iload 6, 2) := by decide +kernel
theorem dX9_holds_33 : decode cX9_holds 33 = .ok (.bipush (-33), 2) := by decide +kernel
theorem dX9_holds_35 : decode cX9_holds 35 = .ok (.if_icmp .ne 32, 3) := by decide +kernel
theorem dX9_holds_38 : decode cX9_holds 38 = .ok (.aload_n 0, 1) := by decide +kernel
theorem dX9_holds_39 : decode cX9_holds 39 = .ok (.getfield 101, 3) := by decide +kernel
theorem dX9_holds_42 : decode cX9_holds 42 = .ok (.iload 4, 2) := by decide +kernel
theorem dX9_holds_44 : decode cX9_holds 44 = .ok (.iconst 1, 1) := by decide +kernel
theorem dX9_holds_45 : decode cX9_holds 45 = .ok (.isub, 1) := by decide +kernel
theorem dX9_holds_46 : decode cX9_holds 46 = .ok (.aload_n 0, 1) := by decide +kernel
theorem dX9_holds_47 : decode cX9_holds 47 = .ok (.getfield 101, 3) := by decide +kernel
theorem dX9_holds_50 : decode cX9_holds 50 = .ok (.iload 4, 2) := by decide +kernel
theorem dX9_holds_52 : decode cX9_holds 52 = .ok (.iconst 1, 1) := by decide +kernel
theorem dX9_holds_53 : decode cX9_holds 53 = .ok (.isub, 1) := by decide +kernel
theorem dX9_holds_54 : decode cX9_holds 54 = .ok (.baload, 1) := by decide +kernel
theorem dX9_holds_55 : decode cX9_holds 55 = .ok (.ifCond .ne 7, 3) := by decide +kernel
theorem dX9_holds_58 : decode cX9_holds 58 = .ok (.iconst 1, 1) := by decide +kernel
theorem dX9_holds_59 : decode cX9_holds 59 = .ok (.goto 4, 3) := by decide +kernel
theorem dX9_holds_62 : decode cX9_holds 62 = .ok (.iconst 0, 1) := by decide +kernel
theorem dX9_holds_63 : decode cX9_holds 63 = .ok (.bastore, 1) := by decide +kernel
theorem dX9_holds_64 : decode cX9_holds 64 = .ok (.goto 183, 3) := by decide +kernel
theorem dX9_holds_67 : decode cX9_holds 67 = .ok (.iload 6, 2) := by decide +kernel
theorem dX9_holds_69 : decode cX9_holds 69 = .ok (.ifCond .ge 82, 3) := by decide +kernel
theorem dX9_holds_72 : decode cX9_holds 72 = .ok (.iinc 4 (-1), 3) := by decide +kernel
theorem dX9_holds_75 : decode cX9_holds 75 = .ok (.aload_n 0, 1) := by decide +kernel
theorem dX9_holds_76 : decode cX9_holds 76 = .ok (.getfield 101, 3) := by decide +kernel
theorem dX9_holds_79 : decode cX9_holds 79 = .ok (.iload 4, 2) := by decide +kernel
theorem dX9_holds_81 : decode cX9_holds 81 = .ok (.iconst 1, 1) := by decide +kernel
theorem dX9_holds_82 : decode cX9_holds 82 = .ok (.isub, 1) := by decide +kernel
theorem dX9_holds_83 : decode cX9_holds 83 = .ok (.iload 6, 2) := by decide +kernel
theorem dX9_holds_85 : decode cX9_holds 85 = .ok (.bipush (-38), 2) := by decide +kernel
theorem dX9_holds_87 : decode cX9_holds 87 = .ok (.if_icmp .ne 33, 3) := by decide +kernel
theorem dX9_holds_90 : decode cX9_holds 90 = .ok (.aload_n 0, 1) := by decide +kernel
theorem dX9_holds_91 : decode cX9_holds 91 = .ok (.getfield 101, 3) := by decide +kernel
theorem dX9_holds_94 : decode cX9_holds 94 = .ok (.iload 4, 2) := by decide +kernel
theorem dX9_holds_96 : decode cX9_holds 96 = .ok (.iconst 1, 1) := by decide +kernel
theorem dX9_holds_97 : decode cX9_holds 97 = .ok (.isub, 1) := by decide +kernel
theorem dX9_holds_98 : decode cX9_holds 98 = .ok (.baload, 1) := by decide +kernel
theorem dX9_holds_99 : decode cX9_holds 99 = .ok (.ifCond .eq 17, 3) := by decide +kernel
theorem dX9_holds_102 : decode cX9_holds 102 = .ok (.aload_n 0, 1) := by decide +kernel
theorem dX9_holds_103 : decode cX9_holds 103 = .ok (.getfield 101, 3) := by decide +kernel
theorem dX9_holds_106 : decode cX9_holds 106 = .ok (.iload 4, 2) := by decide +kernel
theorem dX9_holds_108 : decode cX9_holds 108 = .ok (.baload, 1) := by decide +kernel
theorem dX9_holds_109 : decode cX9_holds 109 = .ok (.ifCond .eq 7, 3) := by decide +kernel
theorem dX9_holds_112 : decode cX9_holds 112 = .ok (.iconst 1, 1) := by decide +kernel
theorem dX9_holds_113 : decode cX9_holds 113 = .ok (.goto 34, 3) := by decide +kernel
theorem dX9_holds_116 : decode cX9_holds 116 = .ok (.iconst 0, 1) := by decide +kernel
theorem dX9_holds_117 : decode cX9_holds 117 = .ok (.goto 30, 3) := by decide +kernel
theorem dX9_holds_120 : decode cX9_holds 120 = .ok (.aload_n 0, 1) := by decide +kernel
theorem dX9_holds_121 : decode cX9_holds 121 = .ok (.getfield 101, 3) := by decide +kernel
theorem dX9_holds_124 : decode cX9_holds 124 = .ok (.iload 4, 2) := by decide +kernel
theorem dX9_holds_126 : decode cX9_holds 126 = .ok (.iconst 1, 1) := by decide +kernel
theorem dX9_holds_127 : decode cX9_holds 127 = .ok (.isub, 1) := by decide +kernel
theorem dX9_holds_128 : decode cX9_holds 128 = .ok (.baload, 1) := by decide +kernel
theorem dX9_holds_129 : decode cX9_holds 129 = .ok (.ifCond .ne 13, 3) := by decide +kernel
theorem dX9_holds_132 : decode cX9_holds 132 = .ok (.aload_n 0, 1) := by decide +kernel
theorem dX9_holds_133 : decode cX9_holds 133 = .ok (.getfield 101, 3) := by decide +kernel
theorem dX9_holds_136 : decode cX9_holds 136 = .ok (.iload 4, 2) := by decide +kernel
theorem dX9_holds_138 : decode cX9_holds 138 = .ok (.baload, 1) := by decide +kernel
theorem dX9_holds_139 : decode cX9_holds 139 = .ok (.ifCond .eq 7, 3) := by decide +kernel
theorem dX9_holds_142 : decode cX9_holds 142 = .ok (.iconst 1, 1) := by decide +kernel
theorem dX9_holds_143 : decode cX9_holds 143 = .ok (.goto 4, 3) := by decide +kernel
theorem dX9_holds_146 : decode cX9_holds 146 = .ok (.iconst 0, 1) := by decide +kernel
theorem dX9_holds_147 : decode cX9_holds 147 = .ok (.bastore, 1) := by decide +kernel
theorem dX9_holds_148 : decode cX9_holds 148 = .ok (.goto 99, 3) := by decide +kernel
theorem dX9_holds_151 : decode cX9_holds 151 = .ok (.aload_n 0, 1) := by decide +kernel
theorem dX9_holds_152 : decode cX9_holds 152 = .ok (.iload 6, 2) := by decide +kernel
theorem dX9_holds_154 : decode cX9_holds 154 = .ok (.sipush 1000, 3) := by decide +kernel
theorem dX9_holds_157 : decode cX9_holds 157 = .ok (.idiv, 1) := by decide +kernel
theorem dX9_holds_158 : decode cX9_holds 158 = .ok (.iload_n 2, 1) := by decide +kernel
theorem dX9_holds_159 : decode cX9_holds 159 = .ok (.iload_n 3, 1) := by decide +kernel
theorem dX9_holds_160 : decode cX9_holds 160 = .ok (.invokevirtual 345, 3) := by decide +kernel
theorem dX9_holds_163 : decode cX9_holds 163 = .ok (.istore 7, 2) := by decide +kernel
theorem dX9_holds_165 : decode cX9_holds 165 = .ok (.iload 6, 2) := by decide +kernel
theorem dX9_holds_167 : decode cX9_holds 167 = .ok (.bipush 100, 2) := by decide +kernel
theorem dX9_holds_169 : decode cX9_holds 169 = .ok (.idiv, 1) := by decide +kernel
theorem dX9_holds_170 : decode cX9_holds 170 = .ok (.bipush 10, 2) := by decide +kernel
theorem dX9_holds_172 : decode cX9_holds 172 = .ok (.irem, 1) := by decide +kernel
theorem dX9_holds_173 : decode cX9_holds 173 = .ok (.istore 8, 2) := by decide +kernel
theorem dX9_holds_175 : decode cX9_holds 175 = .ok (.aload_n 0, 1) := by decide +kernel
theorem dX9_holds_176 : decode cX9_holds 176 = .ok (.getfield 101, 3) := by decide +kernel
theorem dX9_holds_179 : decode cX9_holds 179 = .ok (.iload 4, 2) := by decide +kernel
theorem dX9_holds_181 : decode cX9_holds 181 = .ok (.iload 8, 2) := by decide +kernel
theorem dX9_holds_183 : decode cX9_holds 183 = .ok (.ifCond .ne 21, 3) := by decide +kernel
theorem dX9_holds_186 : decode cX9_holds 186 = .ok (.iload 7, 2) := by decide +kernel
theorem dX9_holds_188 : decode cX9_holds 188 = .ok (.iload 6, 2) := by decide +kernel
theorem dX9_holds_190 : decode cX9_holds 190 = .ok (.bipush 100, 2) := by decide +kernel
theorem dX9_holds_192 : decode cX9_holds 192 = .ok (.irem, 1) := by decide +kernel
theorem dX9_holds_193 : decode cX9_holds 193 = .ok (.if_icmp .ge 7, 3) := by decide +kernel
theorem dX9_holds_196 : decode cX9_holds 196 = .ok (.iconst 1, 1) := by decide +kernel
theorem dX9_holds_197 : decode cX9_holds 197 = .ok (.goto 46, 3) := by decide +kernel
theorem dX9_holds_200 : decode cX9_holds 200 = .ok (.iconst 0, 1) := by decide +kernel
theorem dX9_holds_201 : decode cX9_holds 201 = .ok (.goto 42, 3) := by decide +kernel
theorem dX9_holds_204 : decode cX9_holds 204 = .ok (.iload 8, 2) := by decide +kernel
theorem dX9_holds_206 : decode cX9_holds 206 = .ok (.iconst 1, 1) := by decide +kernel
theorem dX9_holds_207 : decode cX9_holds 207 = .ok (.if_icmp .ne 21, 3) := by decide +kernel
theorem dX9_holds_210 : decode cX9_holds 210 = .ok (.iload 7, 2) := by decide +kernel
theorem dX9_holds_212 : decode cX9_holds 212 = .ok (.iload 6, 2) := by decide +kernel
theorem dX9_holds_214 : decode cX9_holds 214 = .ok (.bipush 100, 2) := by decide +kernel
theorem dX9_holds_216 : decode cX9_holds 216 = .ok (.irem, 1) := by decide +kernel
theorem dX9_holds_217 : decode cX9_holds 217 = .ok (.if_icmp .ne 7, 3) := by decide +kernel
theorem dX9_holds_220 : decode cX9_holds 220 = .ok (.iconst 1, 1) := by decide +kernel
theorem dX9_holds_221 : decode cX9_holds 221 = .ok (.goto 22, 3) := by decide +kernel
theorem dX9_holds_224 : decode cX9_holds 224 = .ok (.iconst 0, 1) := by decide +kernel
theorem dX9_holds_225 : decode cX9_holds 225 = .ok (.goto 18, 3) := by decide +kernel
theorem dX9_holds_228 : decode cX9_holds 228 = .ok (.iload 7, 2) := by decide +kernel
theorem dX9_holds_230 : decode cX9_holds 230 = .ok (.iload 6, 2) := by decide +kernel
theorem dX9_holds_232 : decode cX9_holds 232 = .ok (.bipush 100, 2) := by decide +kernel
theorem dX9_holds_234 : decode cX9_holds 234 = .ok (.irem, 1) := by decide +kernel
theorem dX9_holds_235 : decode cX9_holds 235 = .ok (.if_icmp .le 7, 3) := by decide +kernel
theorem dX9_holds_238 : decode cX9_holds 238 = .ok (.iconst 1, 1) := by decide +kernel
theorem dX9_holds_239 : decode cX9_holds 239 = .ok (.goto 4, 3) := by decide +kernel
theorem dX9_holds_242 : decode cX9_holds 242 = .ok (.iconst 0, 1) := by decide +kernel
theorem dX9_holds_243 : decode cX9_holds 243 = .ok (.bastore, 1) := by decide +kernel
theorem dX9_holds_244 : decode cX9_holds 244 = .ok (.iinc 4 1, 3) := by decide +kernel
theorem dX9_holds_247 : decode cX9_holds 247 = .ok (.iinc 5 1, 3) := by decide +kernel
theorem dX9_holds_250 : decode cX9_holds 250 = .ok (.goto (-239), 3) := by decide +kernel
theorem dX9_holds_253 : decode cX9_holds 253 = .ok (.aload_n 0, 1) := by decide +kernel
theorem dX9_holds_254 : decode cX9_holds 254 = .ok (.getfield 101, 3) := by decide +kernel
theorem dX9_holds_257 : decode cX9_holds 257 = .ok (.iconst 0, 1) := by decide +kernel
theorem dX9_holds_258 : decode cX9_holds 258 = .ok (.baload, 1) := by decide +kernel
theorem dX9_holds_259 : decode cX9_holds 259 = .ok (.ireturn, 1) := by decide +kernel
set_option maxRecDepth 20000 in
theorem ggX9_sum_X9_apart : GoodIn wsX9_sum wsX9_apart := goodIn_r _ [8] (by decide +kernel) (by decide +kernel)
set_option maxRecDepth 20000 in
theorem gX9_sum_X9_apart : GoodIn wsX9_sum (wsV RX9 341 RX9 yX9_apart wsX9_apart) := goodIn_app (goodIn_of _ (by decide +kernel)) ggX9_sum_X9_apart
set_option maxRecDepth 20000 in
theorem ggX9_sum_X9_begin : GoodIn wsX9_sum wsX9_begin := goodIn_r _ [12, 13, 34, 35, 36, 37, 38, 39, 40, 41, 42, 43, 44, 45, 46, 47, 48, 49, 50, 51, 52, 53, 54, 55, 56, 57, 58, 59, 60, 61, 62, 63, 64, 65, 66, 67, 68, 69, 70, 71, 72, 73, 74, 75, 76, 77, 78, 79, 80, 81, 82, 83, 84, 85, 86, 87, 88, 89, 90, 91, 92, 93, 94, 95, 96, 97, 98, 99, 100, 101, 102, 103, 104, 105, 106, 107, 108, 109, 110, 111, 112, 113, 114, 115, 116, 117, 118] (by decide +kernel) (by decide +kernel)
set_option maxRecDepth 20000 in
theorem gX9_sum_X9_begin : GoodIn wsX9_sum (wsV RX9 335 RX9 yX9_begin wsX9_begin) := goodIn_app (goodIn_of _ (by decide +kernel)) ggX9_sum_X9_begin
set_option maxRecDepth 20000 in
theorem ggX9_sum_X9_behind : GoodIn wsX9_sum wsX9_behind := goodIn_r _ [17, 13, 18, 34, 35, 36, 37, 38, 39, 40, 41, 42, 43, 44, 45, 46, 47, 48, 49, 50, 51, 52, 53, 54, 55, 56, 57, 58, 59, 60, 61, 62, 63, 64, 65, 66, 67, 68, 69, 70, 71, 72, 73, 74, 75, 76, 77, 78, 79, 80, 81, 82, 83, 84, 85, 86, 87, 88, 89, 90, 91, 92, 93, 94, 95, 96, 97, 98, 99, 100, 101, 102, 103, 104, 105, 106, 107, 108, 109, 110, 111, 112, 113, 114, 115, 116, 117, 118] (by decide +kernel) (by decide +kernel)
set_option maxRecDepth 20000 in
theorem gX9_sum_X9_behind : GoodIn wsX9_sum (wsV RX9 338 RX9 yX9_behind wsX9_behind) := goodIn_app (goodIn_of _ (by decide +kernel)) ggX9_sum_X9_behind
set_option maxRecDepth 20000 in
theorem ggX9_sum_X9_holds : GoodIn wsX9_sum wsX9_holds := goodIn_r _ [22, 23, 24, 25, 26, 27, 28, 29, 7, 30, 31, 32, 1, 33, 4, 5, 6, 8, 34, 35, 36, 37, 38, 39, 40, 41, 42, 43, 44, 45, 46, 47, 48, 49, 50, 51, 52, 53, 54, 55, 56, 57, 58, 59, 60, 61, 62, 63, 64, 65, 66, 67, 68, 69, 70, 71, 72, 73, 74, 75, 76, 77, 78, 79, 80, 81, 82, 83, 84, 85, 86, 87, 88, 89, 90, 91, 92, 93, 94, 95, 96, 97, 98, 99, 100, 101, 102, 103, 104, 105, 106, 107, 108, 109, 110, 111, 112, 113, 114, 115, 116, 117, 118] (by decide +kernel) (by decide +kernel)
set_option maxRecDepth 20000 in
theorem gX9_sum_X9_holds : GoodIn wsX9_sum (wsV RX9 349 RX9 yX9_holds wsX9_holds) := goodIn_app (goodIn_of _ (by decide +kernel)) ggX9_sum_X9_holds
theorem dX9_sum_0 : decode cX9_sum 0 = .ok (.iconst 2, 1) := by decide +kernel
theorem dX9_sum_1 : decode cX9_sum 1 = .ok (.aload_n 0, 1) := by decide +kernel
theorem dX9_sum_2 : decode cX9_sum 2 = .ok (.aload_n 0, 1) := by decide +kernel
theorem dX9_sum_3 : decode cX9_sum 3 = .ok (.getfield 32, 3) := by decide +kernel
theorem dX9_sum_6 : decode cX9_sum 6 = .ok (.iload_n 1, 1) := by decide +kernel
theorem dX9_sum_7 : decode cX9_sum 7 = .ok (.iaload, 1) := by decide +kernel
theorem dX9_sum_8 : decode cX9_sum 8 = .ok (.iload_n 2, 1) := by decide +kernel
theorem dX9_sum_9 : decode cX9_sum 9 = .ok (.invokevirtual 341, 3) := by decide +kernel
theorem dX9_sum_12 : decode cX9_sum 12 = .ok (.imul, 1) := by decide +kernel
theorem dX9_sum_13 : decode cX9_sum 13 = .ok (.istore_n 3, 1) := by decide +kernel
theorem dX9_sum_14 : decode cX9_sum 14 = .ok (.aload_n 0, 1) := by decide +kernel
theorem dX9_sum_15 : decode cX9_sum 15 = .ok (.invokevirtual 335, 3) := by decide +kernel
theorem dX9_sum_18 : decode cX9_sum 18 = .ok (.istore 4, 2) := by decide +kernel
theorem dX9_sum_20 : decode cX9_sum 20 = .ok (.iload 4, 2) := by decide +kernel
theorem dX9_sum_22 : decode cX9_sum 22 = .ok (.aload_n 0, 1) := by decide +kernel
theorem dX9_sum_23 : decode cX9_sum 23 = .ok (.invokevirtual 338, 3) := by decide +kernel
theorem dX9_sum_26 : decode cX9_sum 26 = .ok (.if_icmp .ge 65, 3) := by decide +kernel
theorem dX9_sum_29 : decode cX9_sum 29 = .ok (.aload_n 0, 1) := by decide +kernel
theorem dX9_sum_30 : decode cX9_sum 30 = .ok (.getfield 71, 3) := by decide +kernel
theorem dX9_sum_33 : decode cX9_sum 33 = .ok (.iload 4, 2) := by decide +kernel
theorem dX9_sum_35 : decode cX9_sum 35 = .ok (.iaload, 1) := by decide +kernel
theorem dX9_sum_36 : decode cX9_sum 36 = .ok (.iconst 1, 1) := by decide +kernel
theorem dX9_sum_37 : decode cX9_sum 37 = .ok (.if_icmp .gt 48, 3) := by decide +kernel
theorem dX9_sum_40 : decode cX9_sum 40 = .ok (.aload_n 0, 1) := by decide +kernel
theorem dX9_sum_41 : decode cX9_sum 41 = .ok (.iload 4, 2) := by decide +kernel
theorem dX9_sum_43 : decode cX9_sum 43 = .ok (.iload_n 1, 1) := by decide +kernel
theorem dX9_sum_44 : decode cX9_sum 44 = .ok (.iload_n 2, 1) := by decide +kernel
theorem dX9_sum_45 : decode cX9_sum 45 = .ok (.invokevirtual 349, 3) := by decide +kernel
theorem dX9_sum_48 : decode cX9_sum 48 = .ok (.ifCond .ne 6, 3) := by decide +kernel
theorem dX9_sum_51 : decode cX9_sum 51 = .ok (.goto 34, 3) := by decide +kernel
theorem dX9_sum_54 : decode cX9_sum 54 = .ok (.iload_n 3, 1) := by decide +kernel
theorem dX9_sum_55 : decode cX9_sum 55 = .ok (.aload_n 0, 1) := by decide +kernel
theorem dX9_sum_56 : decode cX9_sum 56 = .ok (.getfield 71, 3) := by decide +kernel
theorem dX9_sum_59 : decode cX9_sum 59 = .ok (.iload 4, 2) := by decide +kernel
theorem dX9_sum_61 : decode cX9_sum 61 = .ok (.iaload, 1) := by decide +kernel
theorem dX9_sum_62 : decode cX9_sum 62 = .ok (.ifCond .ne 13, 3) := by decide +kernel
theorem dX9_sum_65 : decode cX9_sum 65 = .ok (.aload_n 0, 1) := by decide +kernel
theorem dX9_sum_66 : decode cX9_sum 66 = .ok (.getfield 74, 3) := by decide +kernel
theorem dX9_sum_69 : decode cX9_sum 69 = .ok (.iload 4, 2) := by decide +kernel
theorem dX9_sum_71 : decode cX9_sum 71 = .ok (.iaload, 1) := by decide +kernel
theorem dX9_sum_72 : decode cX9_sum 72 = .ok (.goto 11, 3) := by decide +kernel
theorem dX9_sum_75 : decode cX9_sum 75 = .ok (.aload_n 0, 1) := by decide +kernel
theorem dX9_sum_76 : decode cX9_sum 76 = .ok (.getfield 74, 3) := by decide +kernel
theorem dX9_sum_79 : decode cX9_sum 79 = .ok (.iload 4, 2) := by decide +kernel
theorem dX9_sum_81 : decode cX9_sum 81 = .ok (.iaload, 1) := by decide +kernel
theorem dX9_sum_82 : decode cX9_sum 82 = .ok (.ineg, 1) := by decide +kernel
theorem dX9_sum_83 : decode cX9_sum 83 = .ok (.iadd, 1) := by decide +kernel
theorem dX9_sum_84 : decode cX9_sum 84 = .ok (.istore_n 3, 1) := by decide +kernel
theorem dX9_sum_85 : decode cX9_sum 85 = .ok (.iinc 4 1, 3) := by decide +kernel
theorem dX9_sum_88 : decode cX9_sum 88 = .ok (.goto (-68), 3) := by decide +kernel
theorem dX9_sum_91 : decode cX9_sum 91 = .ok (.iload_n 3, 1) := by decide +kernel
theorem dX9_sum_92 : decode cX9_sum 92 = .ok (.ireturn, 1) := by decide +kernel
set_option maxRecDepth 20000 in
theorem ggX9_cost_X9_sum : GoodIn wsX9_cost wsX9_sum := goodIn_r _ [11, 1, 12, 13, 14, 15, 16, 10, 17, 18, 19, 20, 21, 22, 23, 24, 25, 26, 27, 28, 29, 30, 31, 32, 33, 34, 35, 36, 37, 38, 39, 3, 2, 5, 40, 41, 42, 43, 44, 45, 46, 47, 48, 49, 50, 51, 52, 53, 54, 55, 56, 57, 58, 59, 60, 61, 62, 63, 64, 65, 66, 67, 68, 69, 70, 71, 72, 73, 74, 75, 76, 77, 78, 79, 80, 81, 82, 83, 84, 85, 86, 87, 88, 89, 90, 91, 92, 93, 94, 95, 96, 97, 98, 99, 100, 101, 102, 103, 104, 105, 106, 107, 108, 109, 110, 111, 112, 113, 114, 115, 116, 117, 118, 119, 120, 121, 122, 123, 124] (by decide +kernel) (by decide +kernel)
set_option maxRecDepth 20000 in
theorem gX9_cost_X9_sum : GoodIn wsX9_cost (wsV RX9 352 RX9 yX9_sum wsX9_sum) := goodIn_app (goodIn_of _ (by decide +kernel)) ggX9_cost_X9_sum
theorem dX9_cost_0 : decode cX9_cost 0 = .ok (.aload_n 0, 1) := by decide +kernel
theorem dX9_cost_1 : decode cX9_cost 1 = .ok (.iload_n 1, 1) := by decide +kernel
theorem dX9_cost_2 : decode cX9_cost 2 = .ok (.iload_n 2, 1) := by decide +kernel
theorem dX9_cost_3 : decode cX9_cost 3 = .ok (.invokevirtual 352, 3) := by decide +kernel
theorem dX9_cost_6 : decode cX9_cost 6 = .ok (.istore_n 3, 1) := by decide +kernel
theorem dX9_cost_7 : decode cX9_cost 7 = .ok (.iload_n 2, 1) := by decide +kernel
theorem dX9_cost_8 : decode cX9_cost 8 = .ok (.aload_n 0, 1) := by decide +kernel
theorem dX9_cost_9 : decode cX9_cost 9 = .ok (.getfield 32, 3) := by decide +kernel
theorem dX9_cost_12 : decode cX9_cost 12 = .ok (.iload_n 1, 1) := by decide +kernel
theorem dX9_cost_13 : decode cX9_cost 13 = .ok (.iaload, 1) := by decide +kernel
theorem dX9_cost_14 : decode cX9_cost 14 = .ok (.if_icmp .ge 14, 3) := by decide +kernel
theorem dX9_cost_17 : decode cX9_cost 17 = .ok (.iload_n 3, 1) := by decide +kernel
theorem dX9_cost_18 : decode cX9_cost 18 = .ok (.aload_n 0, 1) := by decide +kernel
theorem dX9_cost_19 : decode cX9_cost 19 = .ok (.getfield 29, 3) := by decide +kernel
theorem dX9_cost_22 : decode cX9_cost 22 = .ok (.iload_n 1, 1) := by decide +kernel
theorem dX9_cost_23 : decode cX9_cost 23 = .ok (.iaload, 1) := by decide +kernel
theorem dX9_cost_24 : decode cX9_cost 24 = .ok (.iadd, 1) := by decide +kernel
theorem dX9_cost_25 : decode cX9_cost 25 = .ok (.goto 4, 3) := by decide +kernel
theorem dX9_cost_28 : decode cX9_cost 28 = .ok (.iload_n 3, 1) := by decide +kernel
theorem dX9_cost_29 : decode cX9_cost 29 = .ok (.istore 4, 2) := by decide +kernel
theorem dX9_cost_31 : decode cX9_cost 31 = .ok (.aload_n 0, 1) := by decide +kernel
theorem dX9_cost_32 : decode cX9_cost 32 = .ok (.getfield 25, 3) := by decide +kernel
theorem dX9_cost_35 : decode cX9_cost 35 = .ok (.iload_n 1, 1) := by decide +kernel
theorem dX9_cost_36 : decode cX9_cost 36 = .ok (.iaload, 1) := by decide +kernel
theorem dX9_cost_37 : decode cX9_cost 37 = .ok (.tableswitch 111 1 6 #[39, 48, 52, 55, 81, 92], 39) := by decide +kernel
theorem dX9_cost_76 : decode cX9_cost 76 = .ok (.iload_n 3, 1) := by decide +kernel
theorem dX9_cost_77 : decode cX9_cost 77 = .ok (.aload_n 0, 1) := by decide +kernel
theorem dX9_cost_78 : decode cX9_cost 78 = .ok (.getfield 41, 3) := by decide +kernel
theorem dX9_cost_81 : decode cX9_cost 81 = .ok (.iload_n 1, 1) := by decide +kernel
theorem dX9_cost_82 : decode cX9_cost 82 = .ok (.iaload, 1) := by decide +kernel
theorem dX9_cost_83 : decode cX9_cost 83 = .ok (.iadd, 1) := by decide +kernel
theorem dX9_cost_84 : decode cX9_cost 84 = .ok (.ireturn, 1) := by decide +kernel
theorem dX9_cost_85 : decode cX9_cost 85 = .ok (.iload_n 3, 1) := by decide +kernel
theorem dX9_cost_86 : decode cX9_cost 86 = .ok (.iconst 2, 1) := by decide +kernel
theorem dX9_cost_87 : decode cX9_cost 87 = .ok (.idiv, 1) := by decide +kernel
theorem dX9_cost_88 : decode cX9_cost 88 = .ok (.ireturn, 1) := by decide +kernel
theorem dX9_cost_89 : decode cX9_cost 89 = .ok (.iload 4, 2) := by decide +kernel
theorem dX9_cost_91 : decode cX9_cost 91 = .ok (.ireturn, 1) := by decide +kernel
theorem dX9_cost_92 : decode cX9_cost 92 = .ok (.iload_n 3, 1) := by decide +kernel
theorem dX9_cost_93 : decode cX9_cost 93 = .ok (.aload_n 0, 1) := by decide +kernel
theorem dX9_cost_94 : decode cX9_cost 94 = .ok (.getfield 41, 3) := by decide +kernel
theorem dX9_cost_97 : decode cX9_cost 97 = .ok (.iload_n 1, 1) := by decide +kernel
theorem dX9_cost_98 : decode cX9_cost 98 = .ok (.iaload, 1) := by decide +kernel
theorem dX9_cost_99 : decode cX9_cost 99 = .ok (.iadd, 1) := by decide +kernel
theorem dX9_cost_100 : decode cX9_cost 100 = .ok (.aload_n 0, 1) := by decide +kernel
theorem dX9_cost_101 : decode cX9_cost 101 = .ok (.getfield 22, 3) := by decide +kernel
theorem dX9_cost_104 : decode cX9_cost 104 = .ok (.iconst 2, 1) := by decide +kernel
theorem dX9_cost_105 : decode cX9_cost 105 = .ok (.irem, 1) := by decide +kernel
theorem dX9_cost_106 : decode cX9_cost 106 = .ok (.iconst 1, 1) := by decide +kernel
theorem dX9_cost_107 : decode cX9_cost 107 = .ok (.if_icmp .ne 8, 3) := by decide +kernel
theorem dX9_cost_110 : decode cX9_cost 110 = .ok (.bipush 20, 2) := by decide +kernel
theorem dX9_cost_112 : decode cX9_cost 112 = .ok (.goto 4, 3) := by decide +kernel
theorem dX9_cost_115 : decode cX9_cost 115 = .ok (.iconst 0, 1) := by decide +kernel
theorem dX9_cost_116 : decode cX9_cost 116 = .ok (.iadd, 1) := by decide +kernel
theorem dX9_cost_117 : decode cX9_cost 117 = .ok (.ireturn, 1) := by decide +kernel
theorem dX9_cost_118 : decode cX9_cost 118 = .ok (.iload_n 3, 1) := by decide +kernel
theorem dX9_cost_119 : decode cX9_cost 119 = .ok (.iconst 2, 1) := by decide +kernel
theorem dX9_cost_120 : decode cX9_cost 120 = .ok (.idiv, 1) := by decide +kernel
theorem dX9_cost_121 : decode cX9_cost 121 = .ok (.aload_n 0, 1) := by decide +kernel
theorem dX9_cost_122 : decode cX9_cost 122 = .ok (.getfield 29, 3) := by decide +kernel
theorem dX9_cost_125 : decode cX9_cost 125 = .ok (.iload_n 1, 1) := by decide +kernel
theorem dX9_cost_126 : decode cX9_cost 126 = .ok (.iaload, 1) := by decide +kernel
theorem dX9_cost_127 : decode cX9_cost 127 = .ok (.isub, 1) := by decide +kernel
theorem dX9_cost_128 : decode cX9_cost 128 = .ok (.ireturn, 1) := by decide +kernel
theorem dX9_cost_129 : decode cX9_cost 129 = .ok (.iload 4, 2) := by decide +kernel
theorem dX9_cost_131 : decode cX9_cost 131 = .ok (.aload_n 0, 1) := by decide +kernel
theorem dX9_cost_132 : decode cX9_cost 132 = .ok (.getfield 44, 3) := by decide +kernel
theorem dX9_cost_135 : decode cX9_cost 135 = .ok (.iconst 4, 1) := by decide +kernel
theorem dX9_cost_136 : decode cX9_cost 136 = .ok (.iload_n 1, 1) := by decide +kernel
theorem dX9_cost_137 : decode cX9_cost 137 = .ok (.imul, 1) := by decide +kernel
theorem dX9_cost_138 : decode cX9_cost 138 = .ok (.aload_n 0, 1) := by decide +kernel
theorem dX9_cost_139 : decode cX9_cost 139 = .ok (.getfield 22, 3) := by decide +kernel
theorem dX9_cost_142 : decode cX9_cost 142 = .ok (.iconst 4, 1) := by decide +kernel
theorem dX9_cost_143 : decode cX9_cost 143 = .ok (.irem, 1) := by decide +kernel
theorem dX9_cost_144 : decode cX9_cost 144 = .ok (.iadd, 1) := by decide +kernel
theorem dX9_cost_145 : decode cX9_cost 145 = .ok (.iaload, 1) := by decide +kernel
theorem dX9_cost_146 : decode cX9_cost 146 = .ok (.iadd, 1) := by decide +kernel
theorem dX9_cost_147 : decode cX9_cost 147 = .ok (.ireturn, 1) := by decide +kernel
theorem dX9_cost_148 : decode cX9_cost 148 = .ok (.iload_n 3, 1) := by decide +kernel
theorem dX9_cost_149 : decode cX9_cost 149 = .ok (.ireturn, 1) := by decide +kernel
set_option maxRecDepth 20000 in
theorem ggX9_isFree_X9_has : GoodIn wsX9_isFree wsX9_has := goodIn_r _ [8] (by decide +kernel) (by decide +kernel)
set_option maxRecDepth 20000 in
theorem gX9_isFree_X9_has : GoodIn wsX9_isFree (wsV RX9 270 RX9 yX9_has wsX9_has) := goodIn_app (goodIn_of _ (by decide +kernel)) ggX9_isFree_X9_has
theorem dX9_isFree_0 : decode cX9_isFree 0 = .ok (.aload_n 0, 1) := by decide +kernel
theorem dX9_isFree_1 : decode cX9_isFree 1 = .ok (.aload_n 0, 1) := by decide +kernel
theorem dX9_isFree_2 : decode cX9_isFree 2 = .ok (.getfield 13, 3) := by decide +kernel
theorem dX9_isFree_5 : decode cX9_isFree 5 = .ok (.iload_n 1, 1) := by decide +kernel
theorem dX9_isFree_6 : decode cX9_isFree 6 = .ok (.invokevirtual 270, 3) := by decide +kernel
theorem dX9_isFree_9 : decode cX9_isFree 9 = .ok (.ifCond .ne 25, 3) := by decide +kernel
theorem dX9_isFree_12 : decode cX9_isFree 12 = .ok (.aload_n 0, 1) := by decide +kernel
theorem dX9_isFree_13 : decode cX9_isFree 13 = .ok (.getfield 35, 3) := by decide +kernel
theorem dX9_isFree_16 : decode cX9_isFree 16 = .ok (.iload_n 1, 1) := by decide +kernel
theorem dX9_isFree_17 : decode cX9_isFree 17 = .ok (.iaload, 1) := by decide +kernel
theorem dX9_isFree_18 : decode cX9_isFree 18 = .ok (.ifCond .ge 16, 3) := by decide +kernel
theorem dX9_isFree_21 : decode cX9_isFree 21 = .ok (.aload_n 0, 1) := by decide +kernel
theorem dX9_isFree_22 : decode cX9_isFree 22 = .ok (.getfield 38, 3) := by decide +kernel
theorem dX9_isFree_25 : decode cX9_isFree 25 = .ok (.iload_n 1, 1) := by decide +kernel
theorem dX9_isFree_26 : decode cX9_isFree 26 = .ok (.iaload, 1) := by decide +kernel
theorem dX9_isFree_27 : decode cX9_isFree 27 = .ok (.ifCond .ne 7, 3) := by decide +kernel
theorem dX9_isFree_30 : decode cX9_isFree 30 = .ok (.iconst 1, 1) := by decide +kernel
theorem dX9_isFree_31 : decode cX9_isFree 31 = .ok (.goto 4, 3) := by decide +kernel
theorem dX9_isFree_34 : decode cX9_isFree 34 = .ok (.iconst 0, 1) := by decide +kernel
theorem dX9_isFree_35 : decode cX9_isFree 35 = .ok (.ireturn, 1) := by decide +kernel
theorem dX9_whoGoes_0 : decode cX9_whoGoes 0 = .ok (.iconst 0, 1) := by decide +kernel
theorem dX9_whoGoes_1 : decode cX9_whoGoes 1 = .ok (.istore_n 2, 1) := by decide +kernel
theorem dX9_whoGoes_2 : decode cX9_whoGoes 2 = .ok (.iload_n 2, 1) := by decide +kernel
theorem dX9_whoGoes_3 : decode cX9_whoGoes 3 = .ok (.aload_n 0, 1) := by decide +kernel
theorem dX9_whoGoes_4 : decode cX9_whoGoes 4 = .ok (.getfield 7, 3) := by decide +kernel
theorem dX9_whoGoes_7 : decode cX9_whoGoes 7 = .ok (.if_icmp .ge 21, 3) := by decide +kernel
theorem dX9_whoGoes_10 : decode cX9_whoGoes 10 = .ok (.aload_n 0, 1) := by decide +kernel
theorem dX9_whoGoes_11 : decode cX9_whoGoes 11 = .ok (.getfield 35, 3) := by decide +kernel
theorem dX9_whoGoes_14 : decode cX9_whoGoes 14 = .ok (.iload_n 2, 1) := by decide +kernel
theorem dX9_whoGoes_15 : decode cX9_whoGoes 15 = .ok (.iaload, 1) := by decide +kernel
theorem dX9_whoGoes_16 : decode cX9_whoGoes 16 = .ok (.iload_n 1, 1) := by decide +kernel
theorem dX9_whoGoes_17 : decode cX9_whoGoes 17 = .ok (.if_icmp .ne 5, 3) := by decide +kernel
theorem dX9_whoGoes_20 : decode cX9_whoGoes 20 = .ok (.iload_n 2, 1) := by decide +kernel
theorem dX9_whoGoes_21 : decode cX9_whoGoes 21 = .ok (.ireturn, 1) := by decide +kernel
theorem dX9_whoGoes_22 : decode cX9_whoGoes 22 = .ok (.iinc 2 1, 3) := by decide +kernel
theorem dX9_whoGoes_25 : decode cX9_whoGoes 25 = .ok (.goto (-23), 3) := by decide +kernel
theorem dX9_whoGoes_28 : decode cX9_whoGoes 28 = .ok (.bipush (-5), 2) := by decide +kernel
theorem dX9_whoGoes_30 : decode cX9_whoGoes 30 = .ok (.ireturn, 1) := by decide +kernel
set_option maxRecDepth 20000 in
theorem ggX9_cheapest_X9_isFree : GoodIn wsX9_cheapest wsX9_isFree := goodIn_r _ [6, 7, 8, 9, 10, 11, 12, 5, 13, 56, 57, 58, 59, 60, 61, 62, 63, 64, 65, 66, 67, 68, 69, 70, 71, 72, 73, 74, 75, 76, 77, 78, 79, 80, 81, 82, 83, 84, 85, 86, 87, 88, 89, 90, 91, 92, 93, 94, 95, 96, 97, 98, 99, 100, 101, 102, 103, 104, 105, 106, 107, 108, 109, 110, 111, 112, 113, 114, 115, 116, 117, 118, 119, 120, 121, 122, 123, 124, 125, 126, 127, 128, 129, 130, 131, 132, 133, 134, 135, 136, 137, 138, 139, 140] (by decide +kernel) (by decide +kernel)
set_option maxRecDepth 20000 in
theorem gX9_cheapest_X9_isFree : GoodIn wsX9_cheapest (wsV RX9 355 RX9 yX9_isFree wsX9_isFree) := goodIn_app (goodIn_of _ (by decide +kernel)) ggX9_cheapest_X9_isFree
set_option maxRecDepth 20000 in
theorem ggX9_cheapest_X9_cost : GoodIn wsX9_cheapest wsX9_cost := goodIn_r _ [17, 18, 19, 20, 21, 22, 23, 24, 25, 26, 5, 27, 28, 29, 30, 31, 32, 33, 34, 35, 36, 37, 38, 39, 40, 41, 42, 43, 44, 45, 46, 47, 48, 49, 50, 51, 52, 53, 54, 55, 56, 57, 58, 59, 60, 61, 62, 63, 64, 65, 66, 67, 68, 69, 70, 71, 72, 73, 74, 75, 76, 77, 78, 79, 80, 81, 82, 83, 84, 85, 86, 87, 88, 89, 90, 91, 92, 93, 94, 95, 96, 97, 98, 99, 100, 101, 102, 103, 104, 105, 106, 107, 108, 109, 110, 111, 112, 113, 114, 115, 116, 117, 118, 119, 120, 121, 122, 123, 124, 125, 126, 127, 128, 129, 130, 131, 132, 133, 134, 135, 136, 137, 138, 139, 140] (by decide +kernel) (by decide +kernel)
set_option maxRecDepth 20000 in
theorem gX9_cheapest_X9_cost : GoodIn wsX9_cheapest (wsV RX9 358 RX9 yX9_cost wsX9_cost) := goodIn_app (goodIn_of _ (by decide +kernel)) ggX9_cheapest_X9_cost
theorem dX9_cheapest_0 : decode cX9_cheapest 0 = .ok (.bipush (-5), 2) := by decide +kernel
theorem dX9_cheapest_2 : decode cX9_cheapest 2 = .ok (.istore_n 2, 1) := by decide +kernel
theorem dX9_cheapest_3 : decode cX9_cheapest 3 = .ok (.iconst 0, 1) := by decide +kernel
theorem dX9_cheapest_4 : decode cX9_cheapest 4 = .ok (.istore_n 3, 1) := by decide +kernel
theorem dX9_cheapest_5 : decode cX9_cheapest 5 = .ok (.iconst 0, 1) := by decide +kernel
theorem dX9_cheapest_6 : decode cX9_cheapest 6 = .ok (.istore 4, 2) := by decide +kernel
theorem dX9_cheapest_8 : decode cX9_cheapest 8 = .ok (.iload 4, 2) := by decide +kernel
theorem dX9_cheapest_10 : decode cX9_cheapest 10 = .ok (.aload_n 0, 1) := by decide +kernel
theorem dX9_cheapest_11 : decode cX9_cheapest 11 = .ok (.getfield 7, 3) := by decide +kernel
theorem dX9_cheapest_14 : decode cX9_cheapest 14 = .ok (.if_icmp .ge 49, 3) := by decide +kernel
theorem dX9_cheapest_17 : decode cX9_cheapest 17 = .ok (.aload_n 0, 1) := by decide +kernel
theorem dX9_cheapest_18 : decode cX9_cheapest 18 = .ok (.iload 4, 2) := by decide +kernel
theorem dX9_cheapest_20 : decode cX9_cheapest 20 = .ok (.invokevirtual 355, 3) := by decide +kernel
theorem dX9_cheapest_23 : decode cX9_cheapest 23 = .ok (.ifCond .ne 6, 3) := by decide +kernel
theorem dX9_cheapest_26 : decode cX9_cheapest 26 = .ok (.goto 31, 3) := by decide +kernel
theorem dX9_cheapest_29 : decode cX9_cheapest 29 = .ok (.aload_n 0, 1) := by decide +kernel
theorem dX9_cheapest_30 : decode cX9_cheapest 30 = .ok (.iload 4, 2) := by decide +kernel
theorem dX9_cheapest_32 : decode cX9_cheapest 32 = .ok (.iload_n 1, 1) := by decide +kernel
theorem dX9_cheapest_33 : decode cX9_cheapest 33 = .ok (.invokevirtual 358, 3) := by decide +kernel
theorem dX9_cheapest_36 : decode cX9_cheapest 36 = .ok (.istore 5, 2) := by decide +kernel
theorem dX9_cheapest_38 : decode cX9_cheapest 38 = .ok (.iload_n 2, 1) := by decide +kernel
theorem dX9_cheapest_39 : decode cX9_cheapest 39 = .ok (.ifCond .lt 12, 3) := by decide +kernel
theorem dX9_cheapest_42 : decode cX9_cheapest 42 = .ok (.iload 5, 2) := by decide +kernel
theorem dX9_cheapest_44 : decode cX9_cheapest 44 = .ok (.iload_n 3, 1) := by decide +kernel
theorem dX9_cheapest_45 : decode cX9_cheapest 45 = .ok (.if_icmp .lt 6, 3) := by decide +kernel
theorem dX9_cheapest_48 : decode cX9_cheapest 48 = .ok (.goto 9, 3) := by decide +kernel
theorem dX9_cheapest_51 : decode cX9_cheapest 51 = .ok (.iload 4, 2) := by decide +kernel
theorem dX9_cheapest_53 : decode cX9_cheapest 53 = .ok (.istore_n 2, 1) := by decide +kernel
theorem dX9_cheapest_54 : decode cX9_cheapest 54 = .ok (.iload 5, 2) := by decide +kernel
theorem dX9_cheapest_56 : decode cX9_cheapest 56 = .ok (.istore_n 3, 1) := by decide +kernel
theorem dX9_cheapest_57 : decode cX9_cheapest 57 = .ok (.iinc 4 1, 3) := by decide +kernel
theorem dX9_cheapest_60 : decode cX9_cheapest 60 = .ok (.goto (-52), 3) := by decide +kernel
theorem dX9_cheapest_63 : decode cX9_cheapest 63 = .ok (.iload_n 2, 1) := by decide +kernel
theorem dX9_cheapest_64 : decode cX9_cheapest 64 = .ok (.ireturn, 1) := by decide +kernel
set_option maxRecDepth 20000 in
theorem ggX9_isOpen_X9_has : GoodIn wsX9_isOpen wsX9_has := goodIn_r _ [6] (by decide +kernel) (by decide +kernel)
set_option maxRecDepth 20000 in
theorem gX9_isOpen_X9_has : GoodIn wsX9_isOpen (wsV RX9 270 RX9 yX9_has wsX9_has) := goodIn_app (goodIn_of _ (by decide +kernel)) ggX9_isOpen_X9_has
set_option maxRecDepth 20000 in
theorem ggX9_isOpen_X9_whoGoes : GoodIn wsX9_isOpen wsX9_whoGoes := goodIn_r _ [10, 11, 12, 13, 14, 15, 16, 17, 18, 19, 20, 21, 22, 23, 24, 25, 26, 27, 28, 29, 30, 31, 32, 33, 34, 35, 36, 37, 38, 39, 40, 41, 42, 43, 44, 45, 46, 47, 48, 49, 50, 51, 52, 53, 54, 55, 56, 57, 58, 59, 60, 61, 62, 63, 64, 65, 66, 67, 68, 69, 70, 71, 72, 73, 74, 75, 76, 77, 78, 79, 80, 81, 82, 83, 84, 85, 86, 87, 88, 89, 90, 91, 92, 93, 94, 95, 96, 97] (by decide +kernel) (by decide +kernel)
set_option maxRecDepth 20000 in
theorem gX9_isOpen_X9_whoGoes : GoodIn wsX9_isOpen (wsV RX9 361 RX9 yX9_whoGoes wsX9_whoGoes) := goodIn_app (goodIn_of _ (by decide +kernel)) ggX9_isOpen_X9_whoGoes
theorem dX9_isOpen_0 : decode cX9_isOpen 0 = .ok (.aload_n 0, 1) := by decide +kernel
theorem dX9_isOpen_1 : decode cX9_isOpen 1 = .ok (.aload_n 0, 1) := by decide +kernel
theorem dX9_isOpen_2 : decode cX9_isOpen 2 = .ok (.getfield 16, 3) := by decide +kernel
theorem dX9_isOpen_5 : decode cX9_isOpen 5 = .ok (.iload_n 1, 1) := by decide +kernel
theorem dX9_isOpen_6 : decode cX9_isOpen 6 = .ok (.invokevirtual 270, 3) := by decide +kernel
theorem dX9_isOpen_9 : decode cX9_isOpen 9 = .ok (.ifCond .eq 15, 3) := by decide +kernel
theorem dX9_isOpen_12 : decode cX9_isOpen 12 = .ok (.aload_n 0, 1) := by decide +kernel
theorem dX9_isOpen_13 : decode cX9_isOpen 13 = .ok (.iload_n 1, 1) := by decide +kernel
theorem dX9_isOpen_14 : decode cX9_isOpen 14 = .ok (.invokevirtual 361, 3) := by decide +kernel
theorem dX9_isOpen_17 : decode cX9_isOpen 17 = .ok (.ifCond .ge 7, 3) := by decide +kernel
theorem dX9_isOpen_20 : decode cX9_isOpen 20 = .ok (.iconst 1, 1) := by decide +kernel
theorem dX9_isOpen_21 : decode cX9_isOpen 21 = .ok (.goto 4, 3) := by decide +kernel
theorem dX9_isOpen_24 : decode cX9_isOpen 24 = .ok (.iconst 0, 1) := by decide +kernel
theorem dX9_isOpen_25 : decode cX9_isOpen 25 = .ok (.ireturn, 1) := by decide +kernel
set_option maxRecDepth 20000 in
theorem ggX9_giveGoals_X9_isOpen : GoodIn wsX9_giveGoals wsX9_isOpen := goodIn_r _ [6, 7, 8, 9, 10, 5, 11, 12, 13, 14, 15, 16, 1, 69, 70, 71, 72, 73, 74, 75, 76, 77, 78, 79, 80, 81, 82, 83, 84, 85, 86, 87, 88, 89, 90, 91, 92, 93, 94, 95, 96, 97, 98, 99, 100, 101, 102, 103, 104, 105, 106, 107, 108, 109, 110, 111, 112, 113, 114, 115, 116, 117, 118, 119, 120, 121, 122, 123, 124, 125, 126, 127, 128, 129, 130, 131, 132, 133, 134, 135, 136, 137, 138, 139, 140, 141, 142, 143, 144, 145, 146, 147, 148, 149, 150, 151, 152, 153] (by decide +kernel) (by decide +kernel)
set_option maxRecDepth 20000 in
theorem gX9_giveGoals_X9_isOpen : GoodIn wsX9_giveGoals (wsV RX9 364 RX9 yX9_isOpen wsX9_isOpen) := goodIn_app (goodIn_of _ (by decide +kernel)) ggX9_giveGoals_X9_isOpen
set_option maxRecDepth 20000 in
theorem ggX9_giveGoals_X9_cheapest : GoodIn wsX9_giveGoals wsX9_cheapest := goodIn_r _ [20, 16, 21, 22, 23, 5, 24, 25, 1, 26, 8, 9, 10, 11, 27, 28, 29, 30, 31, 32, 33, 34, 35, 36, 37, 38, 39, 40, 41, 42, 43, 44, 45, 46, 47, 48, 49, 50, 51, 52, 53, 54, 55, 56, 57, 58, 59, 60, 61, 62, 63, 64, 65, 66, 67, 68, 69, 70, 71, 72, 73, 74, 75, 76, 77, 78, 79, 80, 81, 82, 83, 84, 85, 86, 87, 88, 89, 90, 91, 92, 93, 94, 95, 96, 97, 98, 99, 100, 101, 102, 103, 104, 105, 106, 107, 108, 109, 110, 111, 112, 113, 114, 115, 116, 117, 118, 119, 120, 121, 122, 123, 124, 125, 126, 127, 128, 129, 130, 131, 132, 133, 134, 135, 136, 137, 138, 139, 140, 141, 142, 143, 144, 145, 146, 147, 148, 149, 150, 151, 152, 153] (by decide +kernel) (by decide +kernel)
set_option maxRecDepth 20000 in
theorem gX9_giveGoals_X9_cheapest : GoodIn wsX9_giveGoals (wsV RX9 367 RX9 yX9_cheapest wsX9_cheapest) := goodIn_app (goodIn_of _ (by decide +kernel)) ggX9_giveGoals_X9_cheapest
theorem dX9_giveGoals_0 : decode cX9_giveGoals 0 = .ok (.iconst 0, 1) := by decide +kernel
theorem dX9_giveGoals_1 : decode cX9_giveGoals 1 = .ok (.istore_n 1, 1) := by decide +kernel
theorem dX9_giveGoals_2 : decode cX9_giveGoals 2 = .ok (.iload_n 1, 1) := by decide +kernel
theorem dX9_giveGoals_3 : decode cX9_giveGoals 3 = .ok (.bipush 10, 2) := by decide +kernel
theorem dX9_giveGoals_5 : decode cX9_giveGoals 5 = .ok (.if_icmp .ge 37, 3) := by decide +kernel
theorem dX9_giveGoals_8 : decode cX9_giveGoals 8 = .ok (.aload_n 0, 1) := by decide +kernel
theorem dX9_giveGoals_9 : decode cX9_giveGoals 9 = .ok (.iload_n 1, 1) := by decide +kernel
theorem dX9_giveGoals_10 : decode cX9_giveGoals 10 = .ok (.invokevirtual 364, 3) := by decide +kernel
theorem dX9_giveGoals_13 : decode cX9_giveGoals 13 = .ok (.ifCond .ne 6, 3) := by decide +kernel
theorem dX9_giveGoals_16 : decode cX9_giveGoals 16 = .ok (.goto 20, 3) := by decide +kernel
theorem dX9_giveGoals_19 : decode cX9_giveGoals 19 = .ok (.aload_n 0, 1) := by decide +kernel
theorem dX9_giveGoals_20 : decode cX9_giveGoals 20 = .ok (.iload_n 1, 1) := by decide +kernel
theorem dX9_giveGoals_21 : decode cX9_giveGoals 21 = .ok (.invokevirtual 367, 3) := by decide +kernel
theorem dX9_giveGoals_24 : decode cX9_giveGoals 24 = .ok (.istore_n 2, 1) := by decide +kernel
theorem dX9_giveGoals_25 : decode cX9_giveGoals 25 = .ok (.iload_n 2, 1) := by decide +kernel
theorem dX9_giveGoals_26 : decode cX9_giveGoals 26 = .ok (.ifCond .lt 10, 3) := by decide +kernel
theorem dX9_giveGoals_29 : decode cX9_giveGoals 29 = .ok (.aload_n 0, 1) := by decide +kernel
theorem dX9_giveGoals_30 : decode cX9_giveGoals 30 = .ok (.getfield 35, 3) := by decide +kernel
theorem dX9_giveGoals_33 : decode cX9_giveGoals 33 = .ok (.iload_n 2, 1) := by decide +kernel
theorem dX9_giveGoals_34 : decode cX9_giveGoals 34 = .ok (.iload_n 1, 1) := by decide +kernel
theorem dX9_giveGoals_35 : decode cX9_giveGoals 35 = .ok (.iastore, 1) := by decide +kernel
theorem dX9_giveGoals_36 : decode cX9_giveGoals 36 = .ok (.iinc 1 1, 3) := by decide +kernel
theorem dX9_giveGoals_39 : decode cX9_giveGoals 39 = .ok (.goto (-37), 3) := by decide +kernel
theorem dX9_giveGoals_42 : decode cX9_giveGoals 42 = .ok (.return_, 1) := by decide +kernel
set_option maxRecDepth 20000 in
theorem ggX9_comes_X9_least : GoodIn wsX9_comes wsX9_least := goodIn_r _ [11] (by decide +kernel) (by decide +kernel)
set_option maxRecDepth 20000 in
theorem gX9_comes_X9_least : GoodIn wsX9_comes (wsV RX9 370 RX9 yX9_least wsX9_least) := goodIn_app (goodIn_of _ (by decide +kernel)) ggX9_comes_X9_least
set_option maxRecDepth 20000 in
theorem ggX9_comes_X9_rest : GoodIn wsX9_comes wsX9_rest := goodIn_r _ [15, 16, 17, 18, 19, 20, 10, 21, 22, 23, 24, 25, 26, 27, 28, 29, 30, 31, 32, 33, 34, 35, 36, 37, 38, 39, 40, 41, 42, 43, 44, 45, 46, 47, 48, 49, 50, 51, 52, 53, 54, 55, 56, 57, 58, 59, 60, 61, 62, 63, 64, 65, 66, 67, 68, 69, 70, 71, 72, 73, 74, 75, 76, 77, 78, 79, 80, 81, 82, 83, 84, 85, 86, 87, 88, 89, 90, 91, 92, 93, 94, 95, 96, 97, 98, 99, 100, 101, 102, 103, 104, 105, 106, 107, 108, 109, 110, 111, 112] (by decide +kernel) (by decide +kernel)
set_option maxRecDepth 20000 in
theorem gX9_comes_X9_rest : GoodIn wsX9_comes (wsV RX9 373 RX9 yX9_rest wsX9_rest) := goodIn_app (goodIn_of _ (by decide +kernel)) ggX9_comes_X9_rest
theorem dX9_comes_0 : decode cX9_comes 0 = .ok (.aload_n 0, 1) := by decide +kernel
theorem dX9_comes_1 : decode cX9_comes 1 = .ok (.getfield 35, 3) := by decide +kernel
theorem dX9_comes_4 : decode cX9_comes 4 = .ok (.iload_n 1, 1) := by decide +kernel
theorem dX9_comes_5 : decode cX9_comes 5 = .ok (.iaload, 1) := by decide +kernel
theorem dX9_comes_6 : decode cX9_comes 6 = .ok (.istore_n 2, 1) := by decide +kernel
theorem dX9_comes_7 : decode cX9_comes 7 = .ok (.aload_n 0, 1) := by decide +kernel
theorem dX9_comes_8 : decode cX9_comes 8 = .ok (.getfield 32, 3) := by decide +kernel
theorem dX9_comes_11 : decode cX9_comes 11 = .ok (.iload_n 1, 1) := by decide +kernel
theorem dX9_comes_12 : decode cX9_comes 12 = .ok (.iaload, 1) := by decide +kernel
theorem dX9_comes_13 : decode cX9_comes 13 = .ok (.iload_n 2, 1) := by decide +kernel
theorem dX9_comes_14 : decode cX9_comes 14 = .ok (.if_icmp .eq 27, 3) := by decide +kernel
theorem dX9_comes_17 : decode cX9_comes 17 = .ok (.aload_n 0, 1) := by decide +kernel
theorem dX9_comes_18 : decode cX9_comes 18 = .ok (.getfield 32, 3) := by decide +kernel
theorem dX9_comes_21 : decode cX9_comes 21 = .ok (.iload_n 1, 1) := by decide +kernel
theorem dX9_comes_22 : decode cX9_comes 22 = .ok (.dup2, 1) := by decide +kernel
theorem dX9_comes_23 : decode cX9_comes 23 = .ok (.iaload, 1) := by decide +kernel
theorem dX9_comes_24 : decode cX9_comes 24 = .ok (.aload_n 0, 1) := by decide +kernel
theorem dX9_comes_25 : decode cX9_comes 25 = .ok (.getfield 32, 3) := by decide +kernel
theorem dX9_comes_28 : decode cX9_comes 28 = .ok (.iload_n 1, 1) := by decide +kernel
theorem dX9_comes_29 : decode cX9_comes 29 = .ok (.iaload, 1) := by decide +kernel
theorem dX9_comes_30 : decode cX9_comes 30 = .ok (.iload_n 2, 1) := by decide +kernel
theorem dX9_comes_31 : decode cX9_comes 31 = .ok (.if_icmp .ge 7, 3) := by decide +kernel
theorem dX9_comes_34 : decode cX9_comes 34 = .ok (.iconst 1, 1) := by decide +kernel
theorem dX9_comes_35 : decode cX9_comes 35 = .ok (.goto 4, 3) := by decide +kernel
theorem dX9_comes_38 : decode cX9_comes 38 = .ok (.iconst (-1), 1) := by decide +kernel
theorem dX9_comes_39 : decode cX9_comes 39 = .ok (.iadd, 1) := by decide +kernel
theorem dX9_comes_40 : decode cX9_comes 40 = .ok (.iastore, 1) := by decide +kernel
theorem dX9_comes_41 : decode cX9_comes 41 = .ok (.aload_n 0, 1) := by decide +kernel
theorem dX9_comes_42 : decode cX9_comes 42 = .ok (.getfield 32, 3) := by decide +kernel
theorem dX9_comes_45 : decode cX9_comes 45 = .ok (.iload_n 1, 1) := by decide +kernel
theorem dX9_comes_46 : decode cX9_comes 46 = .ok (.iaload, 1) := by decide +kernel
theorem dX9_comes_47 : decode cX9_comes 47 = .ok (.iload_n 2, 1) := by decide +kernel
theorem dX9_comes_48 : decode cX9_comes 48 = .ok (.if_icmp .eq 4, 3) := by decide +kernel
theorem dX9_comes_51 : decode cX9_comes 51 = .ok (.return_, 1) := by decide +kernel
theorem dX9_comes_52 : decode cX9_comes 52 = .ok (.aload_n 0, 1) := by decide +kernel
theorem dX9_comes_53 : decode cX9_comes 53 = .ok (.getfield 41, 3) := by decide +kernel
theorem dX9_comes_56 : decode cX9_comes 56 = .ok (.iload_n 1, 1) := by decide +kernel
theorem dX9_comes_57 : decode cX9_comes 57 = .ok (.aload_n 0, 1) := by decide +kernel
theorem dX9_comes_58 : decode cX9_comes 58 = .ok (.aload_n 0, 1) := by decide +kernel
theorem dX9_comes_59 : decode cX9_comes 59 = .ok (.getfield 41, 3) := by decide +kernel
theorem dX9_comes_62 : decode cX9_comes 62 = .ok (.iload_n 1, 1) := by decide +kernel
theorem dX9_comes_63 : decode cX9_comes 63 = .ok (.iaload, 1) := by decide +kernel
theorem dX9_comes_64 : decode cX9_comes 64 = .ok (.iconst 1, 1) := by decide +kernel
theorem dX9_comes_65 : decode cX9_comes 65 = .ok (.iadd, 1) := by decide +kernel
theorem dX9_comes_66 : decode cX9_comes 66 = .ok (.aload_n 0, 1) := by decide +kernel
theorem dX9_comes_67 : decode cX9_comes 67 = .ok (.getfield 105, 3) := by decide +kernel
theorem dX9_comes_70 : decode cX9_comes 70 = .ok (.invokevirtual 370, 3) := by decide +kernel
theorem dX9_comes_73 : decode cX9_comes 73 = .ok (.iastore, 1) := by decide +kernel
theorem dX9_comes_74 : decode cX9_comes 74 = .ok (.aload_n 0, 1) := by decide +kernel
theorem dX9_comes_75 : decode cX9_comes 75 = .ok (.dup, 1) := by decide +kernel
theorem dX9_comes_76 : decode cX9_comes 76 = .ok (.getfield 16, 3) := by decide +kernel
theorem dX9_comes_79 : decode cX9_comes 79 = .ok (.iconst 1, 1) := by decide +kernel
theorem dX9_comes_80 : decode cX9_comes 80 = .ok (.iload_n 2, 1) := by decide +kernel
theorem dX9_comes_81 : decode cX9_comes 81 = .ok (.ishl, 1) := by decide +kernel
theorem dX9_comes_82 : decode cX9_comes 82 = .ok (.iconst (-1), 1) := by decide +kernel
theorem dX9_comes_83 : decode cX9_comes 83 = .ok (.ixor, 1) := by decide +kernel
theorem dX9_comes_84 : decode cX9_comes 84 = .ok (.iand, 1) := by decide +kernel
theorem dX9_comes_85 : decode cX9_comes 85 = .ok (.putfield 16, 3) := by decide +kernel
theorem dX9_comes_88 : decode cX9_comes 88 = .ok (.aload_n 0, 1) := by decide +kernel
theorem dX9_comes_89 : decode cX9_comes 89 = .ok (.getfield 35, 3) := by decide +kernel
theorem dX9_comes_92 : decode cX9_comes 92 = .ok (.iload_n 1, 1) := by decide +kernel
theorem dX9_comes_93 : decode cX9_comes 93 = .ok (.bipush (-5), 2) := by decide +kernel
theorem dX9_comes_95 : decode cX9_comes 95 = .ok (.iastore, 1) := by decide +kernel
theorem dX9_comes_96 : decode cX9_comes 96 = .ok (.aload_n 0, 1) := by decide +kernel
theorem dX9_comes_97 : decode cX9_comes 97 = .ok (.getfield 38, 3) := by decide +kernel
theorem dX9_comes_100 : decode cX9_comes 100 = .ok (.iload_n 1, 1) := by decide +kernel
theorem dX9_comes_101 : decode cX9_comes 101 = .ok (.aload_n 0, 1) := by decide +kernel
theorem dX9_comes_102 : decode cX9_comes 102 = .ok (.invokevirtual 373, 3) := by decide +kernel
theorem dX9_comes_105 : decode cX9_comes 105 = .ok (.iastore, 1) := by decide +kernel
theorem dX9_comes_106 : decode cX9_comes 106 = .ok (.return_, 1) := by decide +kernel
set_option maxRecDepth 20000 in
theorem ggX9_goMinute_X9_giveGoals : GoodIn wsX9_goMinute wsX9_giveGoals := goodIn_r _ [13, 3, 14, 15, 16, 12, 17, 6, 18, 19, 20, 21, 22, 23, 24, 25, 1, 26, 27, 28, 29, 30, 31, 32, 33, 2, 4, 34, 35, 36, 37, 38, 39, 40, 41, 8, 42, 43, 44, 45, 46, 47, 48, 49, 50, 51, 52, 53, 54, 55, 56, 57, 58, 59, 60, 61, 62, 63, 64, 65, 66, 67, 68, 69, 70, 71, 72, 73, 74, 92, 93, 94, 95, 96, 97, 98, 99, 100, 101, 102, 103, 104, 105, 106, 107, 108, 109, 110, 111, 112, 113, 114, 115, 116, 117, 118, 119, 120, 121, 122, 123, 124, 125, 126, 127, 128, 129, 130, 131, 132, 133, 134, 135, 136, 137, 138, 139, 140, 141, 142, 143, 144, 145, 146, 147, 148, 149, 150, 151, 152, 153, 154, 155, 156, 157, 158, 159, 160, 161, 162, 163, 164, 165, 166, 167, 168, 169, 170, 171, 172, 173, 174, 175, 176] (by decide +kernel) (by decide +kernel)
set_option maxRecDepth 20000 in
theorem gX9_goMinute_X9_giveGoals : GoodIn wsX9_goMinute (wsV RX9 376 RX9 yX9_giveGoals wsX9_giveGoals) := goodIn_app (goodIn_of _ (by decide +kernel)) ggX9_goMinute_X9_giveGoals
set_option maxRecDepth 20000 in
theorem ggX9_goMinute_X9_has : GoodIn wsX9_goMinute wsX9_has := goodIn_r _ [21] (by decide +kernel) (by decide +kernel)
set_option maxRecDepth 20000 in
theorem gX9_goMinute_X9_has : GoodIn wsX9_goMinute (wsV RX9 270 RX9 yX9_has wsX9_has) := goodIn_app (goodIn_of _ (by decide +kernel)) ggX9_goMinute_X9_has
set_option maxRecDepth 20000 in
theorem ggX9_goMinute_X9_comes : GoodIn wsX9_goMinute wsX9_comes := goodIn_r _ [78, 3, 38, 41, 79, 6, 4, 80, 81, 82, 12, 83, 84, 85, 86, 87, 47, 48, 53, 54, 55, 56, 57, 58, 59, 60, 61, 62, 92, 93, 94, 95, 96, 97, 98, 99, 100, 101, 102, 103, 104, 105, 106, 107, 108, 109, 110, 111, 112, 113, 114, 115, 116, 117, 118, 119, 120, 121, 122, 123, 124, 125, 126, 127, 128, 129, 130, 131, 132, 133, 134, 135, 136, 137, 138, 139, 140, 141, 142, 143, 144, 145, 146, 147, 148, 149, 150, 151, 152, 153, 154, 155, 156, 157, 158, 159, 160, 161, 162, 163, 164, 165, 166, 167, 168, 169, 170, 171, 172, 173, 174, 175, 176] (by decide +kernel) (by decide +kernel)
set_option maxRecDepth 20000 in
theorem gX9_goMinute_X9_comes : GoodIn wsX9_goMinute (wsV RX9 379 RX9 yX9_comes wsX9_comes) := goodIn_app (goodIn_of _ (by decide +kernel)) ggX9_goMinute_X9_comes
set_option maxRecDepth 20000 in
theorem ggX9_goMinute_X9_bits : GoodIn wsX9_goMinute wsX9_bits := goodIn_r _ [91, 18, 19, 20, 12, 21] (by decide +kernel) (by decide +kernel)
set_option maxRecDepth 20000 in
theorem gX9_goMinute_X9_bits : GoodIn wsX9_goMinute (wsV RX9 382 RX9 yX9_bits wsX9_bits) := goodIn_app (goodIn_of _ (by decide +kernel)) ggX9_goMinute_X9_bits
set_option maxRecDepth 20000 in
theorem ggX9_goMinute_X9_least : GoodIn wsX9_goMinute wsX9_least := goodIn_r _ [83] (by decide +kernel) (by decide +kernel)
set_option maxRecDepth 20000 in
theorem gX9_goMinute_X9_least : GoodIn wsX9_goMinute (wsV RX9 370 RX9 yX9_least wsX9_least) := goodIn_app (goodIn_of _ (by decide +kernel)) ggX9_goMinute_X9_least
theorem dX9_goMinute_0 : decode cX9_goMinute 0 = .ok (.aload_n 0, 1) := by decide +kernel
theorem dX9_goMinute_1 : decode cX9_goMinute 1 = .ok (.invokevirtual 376, 3) := by decide +kernel
theorem dX9_goMinute_4 : decode cX9_goMinute 4 = .ok (.iconst 0, 1) := by decide +kernel
theorem dX9_goMinute_5 : decode cX9_goMinute 5 = .ok (.istore_n 1, 1) := by decide +kernel
theorem dX9_goMinute_6 : decode cX9_goMinute 6 = .ok (.iload_n 1, 1) := by decide +kernel
theorem dX9_goMinute_7 : decode cX9_goMinute 7 = .ok (.aload_n 0, 1) := by decide +kernel
theorem dX9_goMinute_8 : decode cX9_goMinute 8 = .ok (.getfield 7, 3) := by decide +kernel
theorem dX9_goMinute_11 : decode cX9_goMinute 11 = .ok (.if_icmp .ge 60, 3) := by decide +kernel
theorem dX9_goMinute_14 : decode cX9_goMinute 14 = .ok (.aload_n 0, 1) := by decide +kernel
theorem dX9_goMinute_15 : decode cX9_goMinute 15 = .ok (.aload_n 0, 1) := by decide +kernel
theorem dX9_goMinute_16 : decode cX9_goMinute 16 = .ok (.getfield 13, 3) := by decide +kernel
theorem dX9_goMinute_19 : decode cX9_goMinute 19 = .ok (.iload_n 1, 1) := by decide +kernel
theorem dX9_goMinute_20 : decode cX9_goMinute 20 = .ok (.invokevirtual 270, 3) := by decide +kernel
theorem dX9_goMinute_23 : decode cX9_goMinute 23 = .ok (.ifCond .eq 6, 3) := by decide +kernel
theorem dX9_goMinute_26 : decode cX9_goMinute 26 = .ok (.goto 39, 3) := by decide +kernel
theorem dX9_goMinute_29 : decode cX9_goMinute 29 = .ok (.aload_n 0, 1) := by decide +kernel
theorem dX9_goMinute_30 : decode cX9_goMinute 30 = .ok (.getfield 35, 3) := by decide +kernel
theorem dX9_goMinute_33 : decode cX9_goMinute 33 = .ok (.iload_n 1, 1) := by decide +kernel
theorem dX9_goMinute_34 : decode cX9_goMinute 34 = .ok (.iaload, 1) := by decide +kernel
theorem dX9_goMinute_35 : decode cX9_goMinute 35 = .ok (.ifCond .lt 11, 3) := by decide +kernel
theorem dX9_goMinute_38 : decode cX9_goMinute 38 = .ok (.aload_n 0, 1) := by decide +kernel
theorem dX9_goMinute_39 : decode cX9_goMinute 39 = .ok (.iload_n 1, 1) := by decide +kernel
theorem dX9_goMinute_40 : decode cX9_goMinute 40 = .ok (.invokevirtual 379, 3) := by decide +kernel
theorem dX9_goMinute_43 : decode cX9_goMinute 43 = .ok (.goto 22, 3) := by decide +kernel
theorem dX9_goMinute_46 : decode cX9_goMinute 46 = .ok (.aload_n 0, 1) := by decide +kernel
theorem dX9_goMinute_47 : decode cX9_goMinute 47 = .ok (.getfield 38, 3) := by decide +kernel
theorem dX9_goMinute_50 : decode cX9_goMinute 50 = .ok (.iload_n 1, 1) := by decide +kernel
theorem dX9_goMinute_51 : decode cX9_goMinute 51 = .ok (.iaload, 1) := by decide +kernel
theorem dX9_goMinute_52 : decode cX9_goMinute 52 = .ok (.ifCond .le 13, 3) := by decide +kernel
theorem dX9_goMinute_55 : decode cX9_goMinute 55 = .ok (.aload_n 0, 1) := by decide +kernel
theorem dX9_goMinute_56 : decode cX9_goMinute 56 = .ok (.getfield 38, 3) := by decide +kernel
theorem dX9_goMinute_59 : decode cX9_goMinute 59 = .ok (.iload_n 1, 1) := by decide +kernel
theorem dX9_goMinute_60 : decode cX9_goMinute 60 = .ok (.dup2, 1) := by decide +kernel
theorem dX9_goMinute_61 : decode cX9_goMinute 61 = .ok (.iaload, 1) := by decide +kernel
theorem dX9_goMinute_62 : decode cX9_goMinute 62 = .ok (.iconst 1, 1) := by decide +kernel
theorem dX9_goMinute_63 : decode cX9_goMinute 63 = .ok (.isub, 1) := by decide +kernel
theorem dX9_goMinute_64 : decode cX9_goMinute 64 = .ok (.iastore, 1) := by decide +kernel
theorem dX9_goMinute_65 : decode cX9_goMinute 65 = .ok (.iinc 1 1, 3) := by decide +kernel
theorem dX9_goMinute_68 : decode cX9_goMinute 68 = .ok (.goto (-62), 3) := by decide +kernel
theorem dX9_goMinute_71 : decode cX9_goMinute 71 = .ok (.aload_n 0, 1) := by decide +kernel
theorem dX9_goMinute_72 : decode cX9_goMinute 72 = .ok (.aload_n 0, 1) := by decide +kernel
theorem dX9_goMinute_73 : decode cX9_goMinute 73 = .ok (.aload_n 0, 1) := by decide +kernel
theorem dX9_goMinute_74 : decode cX9_goMinute 74 = .ok (.getfield 19, 3) := by decide +kernel
theorem dX9_goMinute_77 : decode cX9_goMinute 77 = .ok (.aload_n 0, 1) := by decide +kernel
theorem dX9_goMinute_78 : decode cX9_goMinute 78 = .ok (.aload_n 0, 1) := by decide +kernel
theorem dX9_goMinute_79 : decode cX9_goMinute 79 = .ok (.getfield 16, 3) := by decide +kernel
theorem dX9_goMinute_82 : decode cX9_goMinute 82 = .ok (.invokevirtual 382, 3) := by decide +kernel
theorem dX9_goMinute_85 : decode cX9_goMinute 85 = .ok (.iadd, 1) := by decide +kernel
theorem dX9_goMinute_86 : decode cX9_goMinute 86 = .ok (.aload_n 0, 1) := by decide +kernel
theorem dX9_goMinute_87 : decode cX9_goMinute 87 = .ok (.getfield 109, 3) := by decide +kernel
theorem dX9_goMinute_90 : decode cX9_goMinute 90 = .ok (.invokevirtual 370, 3) := by decide +kernel
theorem dX9_goMinute_93 : decode cX9_goMinute 93 = .ok (.putfield 19, 3) := by decide +kernel
theorem dX9_goMinute_96 : decode cX9_goMinute 96 = .ok (.aload_n 0, 1) := by decide +kernel
theorem dX9_goMinute_97 : decode cX9_goMinute 97 = .ok (.dup, 1) := by decide +kernel
theorem dX9_goMinute_98 : decode cX9_goMinute 98 = .ok (.getfield 22, 3) := by decide +kernel
theorem dX9_goMinute_101 : decode cX9_goMinute 101 = .ok (.iconst 1, 1) := by decide +kernel
theorem dX9_goMinute_102 : decode cX9_goMinute 102 = .ok (.iadd, 1) := by decide +kernel
theorem dX9_goMinute_103 : decode cX9_goMinute 103 = .ok (.putfield 22, 3) := by decide +kernel
theorem dX9_goMinute_106 : decode cX9_goMinute 106 = .ok (.return_, 1) := by decide +kernel
set_option maxRecDepth 20000 in
theorem ggX9_goMinutes_X9_goMinute : GoodIn wsX9_goMinutes wsX9_goMinute := goodIn_r _ [5, 6, 7, 8, 9, 10, 11, 12, 13, 14, 15, 16, 4, 17, 18, 19, 20, 21, 22, 23, 24, 25, 26, 27, 28, 29, 30, 31, 32, 33, 34, 35, 36, 37, 38, 39, 40, 41, 42, 43, 44, 45, 46, 47, 48, 49, 50, 51, 52, 53, 54, 55, 56, 57, 58, 59, 60, 61, 62, 63, 64, 65, 66, 67, 68, 69, 70, 71, 72, 73, 74, 75, 76, 77, 78, 79, 80, 81, 82, 83, 84, 85, 86, 87, 88, 89, 90, 91, 92, 93, 94, 95, 96, 97, 98, 99, 100, 101, 102, 103, 104, 105, 106, 107, 108, 109, 110, 111, 112, 113, 114, 115, 116, 117, 118, 119, 120, 121, 122, 123, 124, 125, 126, 127, 128, 129, 130, 131, 132, 133, 134, 135, 136, 137, 138, 139, 140, 141, 142, 143, 144, 145, 146, 147, 148, 149, 150, 151, 152, 153, 154, 155, 156, 157, 158, 159, 160, 161, 162, 163, 164, 165, 166, 167, 168, 169, 170, 171, 172, 173, 174, 175, 176, 177, 178, 179, 180] (by decide +kernel) (by decide +kernel)
set_option maxRecDepth 20000 in
theorem gX9_goMinutes_X9_goMinute : GoodIn wsX9_goMinutes (wsV RX9 385 RX9 yX9_goMinute wsX9_goMinute) := goodIn_app (goodIn_of _ (by decide +kernel)) ggX9_goMinutes_X9_goMinute
theorem dX9_goMinutes_0 : decode cX9_goMinutes 0 = .ok (.iconst 0, 1) := by decide +kernel
theorem dX9_goMinutes_1 : decode cX9_goMinutes 1 = .ok (.istore_n 2, 1) := by decide +kernel
theorem dX9_goMinutes_2 : decode cX9_goMinutes 2 = .ok (.iload_n 2, 1) := by decide +kernel
theorem dX9_goMinutes_3 : decode cX9_goMinutes 3 = .ok (.iload_n 1, 1) := by decide +kernel
theorem dX9_goMinutes_4 : decode cX9_goMinutes 4 = .ok (.if_icmp .ge 13, 3) := by decide +kernel
theorem dX9_goMinutes_7 : decode cX9_goMinutes 7 = .ok (.aload_n 0, 1) := by decide +kernel
theorem dX9_goMinutes_8 : decode cX9_goMinutes 8 = .ok (.invokevirtual 385, 3) := by decide +kernel
theorem dX9_goMinutes_11 : decode cX9_goMinutes 11 = .ok (.iinc 2 1, 3) := by decide +kernel
theorem dX9_goMinutes_14 : decode cX9_goMinutes 14 = .ok (.goto (-12), 3) := by decide +kernel
theorem dX9_goMinutes_17 : decode cX9_goMinutes 17 = .ok (.return_, 1) := by decide +kernel
set_option maxRecDepth 20000 in
theorem ggX9_pass_X9_isMinutes : GoodIn wsX9_pass wsX9_isMinutes := goodIn_r _ [6, 7, 8, 9, 5, 10] (by decide +kernel) (by decide +kernel)
set_option maxRecDepth 20000 in
theorem gX9_pass_X9_isMinutes : GoodIn wsX9_pass (wsV RX9 388 RX9 yX9_isMinutes wsX9_isMinutes) := goodIn_app (goodIn_of _ (by decide +kernel)) ggX9_pass_X9_isMinutes
set_option maxRecDepth 20000 in
theorem ggX9_pass_X9_goMinutes : GoodIn wsX9_pass wsX9_goMinutes := goodIn_r _ [14, 15, 16, 17, 5, 18, 19, 20, 21, 22, 23, 24, 25, 1, 26, 27, 28, 29, 30, 31, 32, 33, 34, 35, 36, 37, 38, 39, 40, 41, 42, 43, 44, 45, 46, 47, 48, 49, 50, 51, 52, 53, 54, 55, 56, 57, 58, 59, 60, 61, 62, 63, 64, 65, 66, 67, 68, 69, 70, 71, 72, 73, 74, 75, 76, 77, 78, 79, 80, 81, 82, 83, 84, 85, 86, 87, 88, 89, 90, 91, 92, 93, 94, 95, 96, 97, 98, 99, 100, 101, 102, 103, 104, 105, 106, 107, 108, 109, 110, 111, 112, 113, 114, 115, 116, 117, 118, 119, 120, 121, 122, 123, 124, 125, 126, 127, 128, 129, 130, 131, 132, 133, 134, 135, 136, 137, 138, 139, 140, 141, 142, 143, 144, 145, 146, 147, 148, 149, 150, 151, 152, 153, 154, 155, 156, 157, 158, 159, 160, 161, 162, 163, 164, 165, 166, 167, 168, 169, 170, 171, 172, 173, 174, 175, 176, 177, 178, 179, 180, 181, 182, 183, 184, 185, 186, 187, 188, 189, 190, 191, 192] (by decide +kernel) (by decide +kernel)
set_option maxRecDepth 20000 in
theorem gX9_pass_X9_goMinutes : GoodIn wsX9_pass (wsV RX9 391 RX9 yX9_goMinutes wsX9_goMinutes) := goodIn_app (goodIn_of _ (by decide +kernel)) ggX9_pass_X9_goMinutes
theorem dX9_pass_0 : decode cX9_pass 0 = .ok (.aload_n 0, 1) := by decide +kernel
theorem dX9_pass_1 : decode cX9_pass 1 = .ok (.iload_n 1, 1) := by decide +kernel
theorem dX9_pass_2 : decode cX9_pass 2 = .ok (.invokevirtual 388, 3) := by decide +kernel
theorem dX9_pass_5 : decode cX9_pass 5 = .ok (.ifCond .ne 6, 3) := by decide +kernel
theorem dX9_pass_8 : decode cX9_pass 8 = .ok (.bipush (-2), 2) := by decide +kernel
theorem dX9_pass_10 : decode cX9_pass 10 = .ok (.ireturn, 1) := by decide +kernel
theorem dX9_pass_11 : decode cX9_pass 11 = .ok (.aload_n 0, 1) := by decide +kernel
theorem dX9_pass_12 : decode cX9_pass 12 = .ok (.getfield 22, 3) := by decide +kernel
theorem dX9_pass_15 : decode cX9_pass 15 = .ok (.iload_n 1, 1) := by decide +kernel
theorem dX9_pass_16 : decode cX9_pass 16 = .ok (.iadd, 1) := by decide +kernel
theorem dX9_pass_17 : decode cX9_pass 17 = .ok (.sipush 9999, 3) := by decide +kernel
theorem dX9_pass_20 : decode cX9_pass 20 = .ok (.if_icmp .le 6, 3) := by decide +kernel
theorem dX9_pass_23 : decode cX9_pass 23 = .ok (.bipush (-3), 2) := by decide +kernel
theorem dX9_pass_25 : decode cX9_pass 25 = .ok (.ireturn, 1) := by decide +kernel
theorem dX9_pass_26 : decode cX9_pass 26 = .ok (.aload_n 0, 1) := by decide +kernel
theorem dX9_pass_27 : decode cX9_pass 27 = .ok (.iload_n 1, 1) := by decide +kernel
theorem dX9_pass_28 : decode cX9_pass 28 = .ok (.invokevirtual 391, 3) := by decide +kernel
theorem dX9_pass_31 : decode cX9_pass 31 = .ok (.aload_n 0, 1) := by decide +kernel
theorem dX9_pass_32 : decode cX9_pass 32 = .ok (.getfield 22, 3) := by decide +kernel
theorem dX9_pass_35 : decode cX9_pass 35 = .ok (.ireturn, 1) := by decide +kernel
theorem dX9_save_0 : decode cX9_save 0 = .ok (.aload_n 0, 1) := by decide +kernel
theorem dX9_save_1 : decode cX9_save 1 = .ok (.ldc_w 394, 3) := by decide +kernel
theorem dX9_save_4 : decode cX9_save 4 = .ok (.putfield 105, 3) := by decide +kernel
theorem dX9_save_7 : decode cX9_save 7 = .ok (.aload_n 0, 1) := by decide +kernel
theorem dX9_save_8 : decode cX9_save 8 = .ok (.ldc_w 394, 3) := by decide +kernel
theorem dX9_save_11 : decode cX9_save 11 = .ok (.putfield 109, 3) := by decide +kernel
theorem dX9_save_14 : decode cX9_save 14 = .ok (.aload_n 0, 1) := by decide +kernel
theorem dX9_save_15 : decode cX9_save 15 = .ok (.aload_n 0, 1) := by decide +kernel
theorem dX9_save_16 : decode cX9_save 16 = .ok (.getfield 13, 3) := by decide +kernel
theorem dX9_save_19 : decode cX9_save 19 = .ok (.putfield 112, 3) := by decide +kernel
theorem dX9_save_22 : decode cX9_save 22 = .ok (.aload_n 0, 1) := by decide +kernel
theorem dX9_save_23 : decode cX9_save 23 = .ok (.aload_n 0, 1) := by decide +kernel
theorem dX9_save_24 : decode cX9_save 24 = .ok (.getfield 16, 3) := by decide +kernel
theorem dX9_save_27 : decode cX9_save 27 = .ok (.putfield 115, 3) := by decide +kernel
theorem dX9_save_30 : decode cX9_save 30 = .ok (.aload_n 0, 1) := by decide +kernel
theorem dX9_save_31 : decode cX9_save 31 = .ok (.aload_n 0, 1) := by decide +kernel
theorem dX9_save_32 : decode cX9_save 32 = .ok (.getfield 19, 3) := by decide +kernel
theorem dX9_save_35 : decode cX9_save 35 = .ok (.putfield 118, 3) := by decide +kernel
theorem dX9_save_38 : decode cX9_save 38 = .ok (.aload_n 0, 1) := by decide +kernel
theorem dX9_save_39 : decode cX9_save 39 = .ok (.aload_n 0, 1) := by decide +kernel
theorem dX9_save_40 : decode cX9_save 40 = .ok (.getfield 22, 3) := by decide +kernel
theorem dX9_save_43 : decode cX9_save 43 = .ok (.putfield 121, 3) := by decide +kernel
theorem dX9_save_46 : decode cX9_save 46 = .ok (.iconst 0, 1) := by decide +kernel
theorem dX9_save_47 : decode cX9_save 47 = .ok (.istore_n 1, 1) := by decide +kernel
theorem dX9_save_48 : decode cX9_save 48 = .ok (.iload_n 1, 1) := by decide +kernel
theorem dX9_save_49 : decode cX9_save 49 = .ok (.bipush 6, 2) := by decide +kernel
theorem dX9_save_51 : decode cX9_save 51 = .ok (.if_icmp .ge 57, 3) := by decide +kernel
theorem dX9_save_54 : decode cX9_save 54 = .ok (.aload_n 0, 1) := by decide +kernel
theorem dX9_save_55 : decode cX9_save 55 = .ok (.getfield 124, 3) := by decide +kernel
theorem dX9_save_58 : decode cX9_save 58 = .ok (.iload_n 1, 1) := by decide +kernel
theorem dX9_save_59 : decode cX9_save 59 = .ok (.aload_n 0, 1) := by decide +kernel
theorem dX9_save_60 : decode cX9_save 60 = .ok (.getfield 32, 3) := by decide +kernel
theorem dX9_save_63 : decode cX9_save 63 = .ok (.iload_n 1, 1) := by decide +kernel
theorem dX9_save_64 : decode cX9_save 64 = .ok (.iaload, 1) := by decide +kernel
theorem dX9_save_65 : decode cX9_save 65 = .ok (.iastore, 1) := by decide +kernel
theorem dX9_save_66 : decode cX9_save 66 = .ok (.aload_n 0, 1) := by decide +kernel
theorem dX9_save_67 : decode cX9_save 67 = .ok (.getfield 127, 3) := by decide +kernel
theorem dX9_save_70 : decode cX9_save 70 = .ok (.iload_n 1, 1) := by decide +kernel
theorem dX9_save_71 : decode cX9_save 71 = .ok (.aload_n 0, 1) := by decide +kernel
theorem dX9_save_72 : decode cX9_save 72 = .ok (.getfield 35, 3) := by decide +kernel
theorem dX9_save_75 : decode cX9_save 75 = .ok (.iload_n 1, 1) := by decide +kernel
theorem dX9_save_76 : decode cX9_save 76 = .ok (.iaload, 1) := by decide +kernel
theorem dX9_save_77 : decode cX9_save 77 = .ok (.iastore, 1) := by decide +kernel
theorem dX9_save_78 : decode cX9_save 78 = .ok (.aload_n 0, 1) := by decide +kernel
theorem dX9_save_79 : decode cX9_save 79 = .ok (.getfield 130, 3) := by decide +kernel
theorem dX9_save_82 : decode cX9_save 82 = .ok (.iload_n 1, 1) := by decide +kernel
theorem dX9_save_83 : decode cX9_save 83 = .ok (.aload_n 0, 1) := by decide +kernel
theorem dX9_save_84 : decode cX9_save 84 = .ok (.getfield 38, 3) := by decide +kernel
theorem dX9_save_87 : decode cX9_save 87 = .ok (.iload_n 1, 1) := by decide +kernel
theorem dX9_save_88 : decode cX9_save 88 = .ok (.iaload, 1) := by decide +kernel
theorem dX9_save_89 : decode cX9_save 89 = .ok (.iastore, 1) := by decide +kernel
theorem dX9_save_90 : decode cX9_save 90 = .ok (.aload_n 0, 1) := by decide +kernel
theorem dX9_save_91 : decode cX9_save 91 = .ok (.getfield 133, 3) := by decide +kernel
theorem dX9_save_94 : decode cX9_save 94 = .ok (.iload_n 1, 1) := by decide +kernel
theorem dX9_save_95 : decode cX9_save 95 = .ok (.aload_n 0, 1) := by decide +kernel
theorem dX9_save_96 : decode cX9_save 96 = .ok (.getfield 41, 3) := by decide +kernel
theorem dX9_save_99 : decode cX9_save 99 = .ok (.iload_n 1, 1) := by decide +kernel
theorem dX9_save_100 : decode cX9_save 100 = .ok (.iaload, 1) := by decide +kernel
theorem dX9_save_101 : decode cX9_save 101 = .ok (.iastore, 1) := by decide +kernel
theorem dX9_save_102 : decode cX9_save 102 = .ok (.iinc 1 1, 3) := by decide +kernel
theorem dX9_save_105 : decode cX9_save 105 = .ok (.goto (-57), 3) := by decide +kernel
theorem dX9_save_108 : decode cX9_save 108 = .ok (.return_, 1) := by decide +kernel
theorem dX9_putBack_0 : decode cX9_putBack 0 = .ok (.aload_n 0, 1) := by decide +kernel
theorem dX9_putBack_1 : decode cX9_putBack 1 = .ok (.sipush 9999, 3) := by decide +kernel
theorem dX9_putBack_4 : decode cX9_putBack 4 = .ok (.putfield 105, 3) := by decide +kernel
theorem dX9_putBack_7 : decode cX9_putBack 7 = .ok (.aload_n 0, 1) := by decide +kernel
theorem dX9_putBack_8 : decode cX9_putBack 8 = .ok (.ldc 108, 2) := by decide +kernel
theorem dX9_putBack_10 : decode cX9_putBack 10 = .ok (.putfield 109, 3) := by decide +kernel
theorem dX9_putBack_13 : decode cX9_putBack 13 = .ok (.aload_n 0, 1) := by decide +kernel
theorem dX9_putBack_14 : decode cX9_putBack 14 = .ok (.aload_n 0, 1) := by decide +kernel
theorem dX9_putBack_15 : decode cX9_putBack 15 = .ok (.getfield 112, 3) := by decide +kernel
theorem dX9_putBack_18 : decode cX9_putBack 18 = .ok (.putfield 13, 3) := by decide +kernel
theorem dX9_putBack_21 : decode cX9_putBack 21 = .ok (.aload_n 0, 1) := by decide +kernel
theorem dX9_putBack_22 : decode cX9_putBack 22 = .ok (.aload_n 0, 1) := by decide +kernel
theorem dX9_putBack_23 : decode cX9_putBack 23 = .ok (.getfield 115, 3) := by decide +kernel
theorem dX9_putBack_26 : decode cX9_putBack 26 = .ok (.putfield 16, 3) := by decide +kernel
theorem dX9_putBack_29 : decode cX9_putBack 29 = .ok (.aload_n 0, 1) := by decide +kernel
theorem dX9_putBack_30 : decode cX9_putBack 30 = .ok (.aload_n 0, 1) := by decide +kernel
theorem dX9_putBack_31 : decode cX9_putBack 31 = .ok (.getfield 118, 3) := by decide +kernel
theorem dX9_putBack_34 : decode cX9_putBack 34 = .ok (.putfield 19, 3) := by decide +kernel
theorem dX9_putBack_37 : decode cX9_putBack 37 = .ok (.aload_n 0, 1) := by decide +kernel
theorem dX9_putBack_38 : decode cX9_putBack 38 = .ok (.aload_n 0, 1) := by decide +kernel
theorem dX9_putBack_39 : decode cX9_putBack 39 = .ok (.getfield 121, 3) := by decide +kernel
theorem dX9_putBack_42 : decode cX9_putBack 42 = .ok (.putfield 22, 3) := by decide +kernel
theorem dX9_putBack_45 : decode cX9_putBack 45 = .ok (.iconst 0, 1) := by decide +kernel
theorem dX9_putBack_46 : decode cX9_putBack 46 = .ok (.istore_n 1, 1) := by decide +kernel
theorem dX9_putBack_47 : decode cX9_putBack 47 = .ok (.iload_n 1, 1) := by decide +kernel
theorem dX9_putBack_48 : decode cX9_putBack 48 = .ok (.bipush 6, 2) := by decide +kernel
theorem dX9_putBack_50 : decode cX9_putBack 50 = .ok (.if_icmp .ge 57, 3) := by decide +kernel
theorem dX9_putBack_53 : decode cX9_putBack 53 = .ok (.aload_n 0, 1) := by decide +kernel
theorem dX9_putBack_54 : decode cX9_putBack 54 = .ok (.getfield 32, 3) := by decide +kernel
theorem dX9_putBack_57 : decode cX9_putBack 57 = .ok (.iload_n 1, 1) := by decide +kernel
theorem dX9_putBack_58 : decode cX9_putBack 58 = .ok (.aload_n 0, 1) := by decide +kernel
theorem dX9_putBack_59 : decode cX9_putBack 59 = .ok (.getfield 124, 3) := by decide +kernel
theorem dX9_putBack_62 : decode cX9_putBack 62 = .ok (.iload_n 1, 1) := by decide +kernel
theorem dX9_putBack_63 : decode cX9_putBack 63 = .ok (.iaload, 1) := by decide +kernel
theorem dX9_putBack_64 : decode cX9_putBack 64 = .ok (.iastore, 1) := by decide +kernel
theorem dX9_putBack_65 : decode cX9_putBack 65 = .ok (.aload_n 0, 1) := by decide +kernel
theorem dX9_putBack_66 : decode cX9_putBack 66 = .ok (.getfield 35, 3) := by decide +kernel
theorem dX9_putBack_69 : decode cX9_putBack 69 = .ok (.iload_n 1, 1) := by decide +kernel
theorem dX9_putBack_70 : decode cX9_putBack 70 = .ok (.aload_n 0, 1) := by decide +kernel
theorem dX9_putBack_71 : decode cX9_putBack 71 = .ok (.getfield 127, 3) := by decide +kernel
theorem dX9_putBack_74 : decode cX9_putBack 74 = .ok (.iload_n 1, 1) := by decide +kernel
theorem dX9_putBack_75 : decode cX9_putBack 75 = .ok (.iaload, 1) := by decide +kernel
theorem dX9_putBack_76 : decode cX9_putBack 76 = .ok (.iastore, 1) := by decide +kernel
theorem dX9_putBack_77 : decode cX9_putBack 77 = .ok (.aload_n 0, 1) := by decide +kernel
theorem dX9_putBack_78 : decode cX9_putBack 78 = .ok (.getfield 38, 3) := by decide +kernel
theorem dX9_putBack_81 : decode cX9_putBack 81 = .ok (.iload_n 1, 1) := by decide +kernel
theorem dX9_putBack_82 : decode cX9_putBack 82 = .ok (.aload_n 0, 1) := by decide +kernel
theorem dX9_putBack_83 : decode cX9_putBack 83 = .ok (.getfield 130, 3) := by decide +kernel
theorem dX9_putBack_86 : decode cX9_putBack 86 = .ok (.iload_n 1, 1) := by decide +kernel
theorem dX9_putBack_87 : decode cX9_putBack 87 = .ok (.iaload, 1) := by decide +kernel
theorem dX9_putBack_88 : decode cX9_putBack 88 = .ok (.iastore, 1) := by decide +kernel
theorem dX9_putBack_89 : decode cX9_putBack 89 = .ok (.aload_n 0, 1) := by decide +kernel
theorem dX9_putBack_90 : decode cX9_putBack 90 = .ok (.getfield 41, 3) := by decide +kernel
theorem dX9_putBack_93 : decode cX9_putBack 93 = .ok (.iload_n 1, 1) := by decide +kernel
theorem dX9_putBack_94 : decode cX9_putBack 94 = .ok (.aload_n 0, 1) := by decide +kernel
theorem dX9_putBack_95 : decode cX9_putBack 95 = .ok (.getfield 133, 3) := by decide +kernel
theorem dX9_putBack_98 : decode cX9_putBack 98 = .ok (.iload_n 1, 1) := by decide +kernel
theorem dX9_putBack_99 : decode cX9_putBack 99 = .ok (.iaload, 1) := by decide +kernel
theorem dX9_putBack_100 : decode cX9_putBack 100 = .ok (.iastore, 1) := by decide +kernel
theorem dX9_putBack_101 : decode cX9_putBack 101 = .ok (.iinc 1 1, 3) := by decide +kernel
theorem dX9_putBack_104 : decode cX9_putBack 104 = .ok (.goto (-57), 3) := by decide +kernel
theorem dX9_putBack_107 : decode cX9_putBack 107 = .ok (.return_, 1) := by decide +kernel
set_option maxRecDepth 20000 in
theorem ggX9_stands_X9_save : GoodIn wsX9_stands wsX9_save := goodIn_r _ [8, 1, 9, 10, 11, 12, 13, 14, 3, 15, 16, 17, 18, 2, 19, 20, 21, 22, 23, 24, 118, 119, 120, 121, 122, 123, 124, 125, 126, 127, 128, 129, 130, 131, 132, 133, 134, 135, 136, 137, 138, 139, 140, 141, 142, 143, 144, 145, 146, 147, 148, 149, 150, 151, 152, 153, 154, 155, 156, 157, 158, 159, 160, 161, 162, 163, 164, 165, 166, 167, 168, 169, 170, 171, 172, 173, 174, 175, 176, 177, 178, 179, 180, 181, 182, 183, 184, 185, 186, 187, 188, 189, 190, 191, 192, 193, 194, 195, 196, 197, 198, 199, 200, 201, 202] (by decide +kernel) (by decide +kernel)
set_option maxRecDepth 20000 in
theorem gX9_stands_X9_save : GoodIn wsX9_stands (wsV RX9 395 RX9 yX9_save wsX9_save) := goodIn_app (goodIn_of _ (by decide +kernel)) ggX9_stands_X9_save
set_option maxRecDepth 20000 in
theorem ggX9_stands_X9_goMinutes : GoodIn wsX9_stands wsX9_goMinutes := goodIn_r _ [28, 29, 30, 31, 7, 32, 33, 11, 20, 22, 3, 13, 10, 16, 34, 35, 36, 37, 38, 39, 40, 41, 42, 43, 44, 45, 46, 47, 48, 49, 50, 51, 52, 53, 54, 55, 56, 57, 58, 59, 60, 61, 2, 62, 63, 24, 64, 65, 66, 67, 68, 69, 70, 71, 72, 73, 74, 75, 76, 77, 78, 79, 80, 81, 82, 83, 84, 85, 86, 87, 88, 89, 90, 91, 92, 93, 94, 95, 96, 97, 98, 99, 100, 9, 101, 102, 103, 104, 105, 106, 107, 108, 109, 110, 111, 112, 118, 119, 120, 121, 122, 123, 124, 125, 126, 127, 128, 129, 130, 131, 132, 133, 134, 135, 136, 137, 138, 139, 140, 141, 142, 143, 144, 145, 146, 147, 148, 149, 150, 151, 152, 153, 154, 155, 156, 157, 158, 159, 160, 161, 162, 163, 164, 165, 166, 167, 168, 169, 170, 171, 172, 173, 174, 175, 176, 177, 178, 179, 180, 181, 182, 183, 184, 185, 186, 187, 188, 189, 190, 191, 192, 193, 194, 195, 196, 197, 198, 199, 200, 201, 202] (by decide +kernel) (by decide +kernel)
set_option maxRecDepth 20000 in
theorem gX9_stands_X9_goMinutes : GoodIn wsX9_stands (wsV RX9 391 RX9 yX9_goMinutes wsX9_goMinutes) := goodIn_app (goodIn_of _ (by decide +kernel)) ggX9_stands_X9_goMinutes
set_option maxRecDepth 20000 in
theorem ggX9_stands_X9_putBack : GoodIn wsX9_stands wsX9_putBack := goodIn_r _ [116, 9, 117, 10, 12, 11, 14, 13, 15, 3, 17, 16, 2, 18, 20, 19, 22, 21, 24, 23, 118, 119, 120, 121, 122, 123, 124, 125, 126, 127, 128, 129, 130, 131, 132, 133, 134, 135, 136, 137, 138, 139, 140, 141, 142, 143, 144, 145, 146, 147, 148, 149, 150, 151, 152, 153, 154, 155, 156, 157, 158, 159, 160, 161, 162, 163, 164, 165, 166, 167, 168, 169, 170, 171, 172, 173, 174, 175, 176, 177, 178, 179, 180, 181, 182, 183, 184, 185, 186, 187, 188, 189, 190, 191, 192, 193, 194, 195, 196, 197, 198, 199, 200, 201, 202] (by decide +kernel) (by decide +kernel)
set_option maxRecDepth 20000 in
theorem gX9_stands_X9_putBack : GoodIn wsX9_stands (wsV RX9 398 RX9 yX9_putBack wsX9_putBack) := goodIn_app (goodIn_of _ (by decide +kernel)) ggX9_stands_X9_putBack
theorem dX9_stands_0 : decode cX9_stands 0 = .ok (.iconst 0, 1) := by decide +kernel
theorem dX9_stands_1 : decode cX9_stands 1 = .ok (.istore_n 2, 1) := by decide +kernel
theorem dX9_stands_2 : decode cX9_stands 2 = .ok (.ldc_w 394, 3) := by decide +kernel
theorem dX9_stands_5 : decode cX9_stands 5 = .ok (.istore_n 3, 1) := by decide +kernel
theorem dX9_stands_6 : decode cX9_stands 6 = .ok (.iconst 0, 1) := by decide +kernel
theorem dX9_stands_7 : decode cX9_stands 7 = .ok (.istore 4, 2) := by decide +kernel
theorem dX9_stands_9 : decode cX9_stands 9 = .ok (.iload 4, 2) := by decide +kernel
theorem dX9_stands_11 : decode cX9_stands 11 = .ok (.bipush 10, 2) := by decide +kernel
theorem dX9_stands_13 : decode cX9_stands 13 = .ok (.if_icmp .ge 52, 3) := by decide +kernel
theorem dX9_stands_16 : decode cX9_stands 16 = .ok (.aload_n 0, 1) := by decide +kernel
theorem dX9_stands_17 : decode cX9_stands 17 = .ok (.invokevirtual 395, 3) := by decide +kernel
theorem dX9_stands_20 : decode cX9_stands 20 = .ok (.aload_n 0, 1) := by decide +kernel
theorem dX9_stands_21 : decode cX9_stands 21 = .ok (.getfield 32, 3) := by decide +kernel
theorem dX9_stands_24 : decode cX9_stands 24 = .ok (.iload_n 1, 1) := by decide +kernel
theorem dX9_stands_25 : decode cX9_stands 25 = .ok (.iload 4, 2) := by decide +kernel
theorem dX9_stands_27 : decode cX9_stands 27 = .ok (.iastore, 1) := by decide +kernel
theorem dX9_stands_28 : decode cX9_stands 28 = .ok (.aload_n 0, 1) := by decide +kernel
theorem dX9_stands_29 : decode cX9_stands 29 = .ok (.bipush 20, 2) := by decide +kernel
theorem dX9_stands_31 : decode cX9_stands 31 = .ok (.invokevirtual 391, 3) := by decide +kernel
theorem dX9_stands_34 : decode cX9_stands 34 = .ok (.aload_n 0, 1) := by decide +kernel
theorem dX9_stands_35 : decode cX9_stands 35 = .ok (.getfield 19, 3) := by decide +kernel
theorem dX9_stands_38 : decode cX9_stands 38 = .ok (.istore 5, 2) := by decide +kernel
theorem dX9_stands_40 : decode cX9_stands 40 = .ok (.aload_n 0, 1) := by decide +kernel
theorem dX9_stands_41 : decode cX9_stands 41 = .ok (.invokevirtual 398, 3) := by decide +kernel
theorem dX9_stands_44 : decode cX9_stands 44 = .ok (.iload 5, 2) := by decide +kernel
theorem dX9_stands_46 : decode cX9_stands 46 = .ok (.iload_n 3, 1) := by decide +kernel
theorem dX9_stands_47 : decode cX9_stands 47 = .ok (.if_icmp .lt 6, 3) := by decide +kernel
theorem dX9_stands_50 : decode cX9_stands 50 = .ok (.goto 9, 3) := by decide +kernel
theorem dX9_stands_53 : decode cX9_stands 53 = .ok (.iload 4, 2) := by decide +kernel
theorem dX9_stands_55 : decode cX9_stands 55 = .ok (.istore_n 2, 1) := by decide +kernel
theorem dX9_stands_56 : decode cX9_stands 56 = .ok (.iload 5, 2) := by decide +kernel
theorem dX9_stands_58 : decode cX9_stands 58 = .ok (.istore_n 3, 1) := by decide +kernel
theorem dX9_stands_59 : decode cX9_stands 59 = .ok (.iinc 4 1, 3) := by decide +kernel
theorem dX9_stands_62 : decode cX9_stands 62 = .ok (.goto (-53), 3) := by decide +kernel
theorem dX9_stands_65 : decode cX9_stands 65 = .ok (.iload_n 2, 1) := by decide +kernel
theorem dX9_stands_66 : decode cX9_stands 66 = .ok (.ireturn, 1) := by decide +kernel
set_option maxRecDepth 20000 in
theorem ggX9_of_X9_isMaster : GoodIn wsX9_of wsX9_isMaster := goodIn_r _ [12, 13, 14, 15, 16, 11, 17, 130, 131, 132, 133, 134, 135, 136, 137, 138, 139, 140, 141, 142, 143, 144, 145, 146, 147, 148, 149, 150, 151, 152, 153, 154, 155, 156, 157, 158, 159, 160, 161, 162, 163, 164, 165, 166, 167, 168, 169, 170, 171, 172, 173, 174, 175, 176, 177, 178, 179, 180, 181, 182, 183, 184, 185, 186, 187, 188, 189, 190, 191, 192, 193, 194, 195, 196, 197, 198, 199, 200, 201, 202, 203, 204, 205, 206, 207, 208, 209, 210, 211, 212, 213, 214] (by decide +kernel) (by decide +kernel)
set_option maxRecDepth 20000 in
theorem gX9_of_X9_isMaster : GoodIn wsX9_of (wsV RX9 282 RX9 yX9_isMaster wsX9_isMaster) := goodIn_app (goodIn_of _ (by decide +kernel)) ggX9_of_X9_isMaster
set_option maxRecDepth 20000 in
theorem ggX9_of_X9_in : GoodIn wsX9_of wsX9_in := goodIn_r _ [17] (by decide +kernel) (by decide +kernel)
set_option maxRecDepth 20000 in
theorem gX9_of_X9_in : GoodIn wsX9_of (wsV RX9 274 RX9 yX9_in wsX9_in) := goodIn_app (goodIn_of _ (by decide +kernel)) ggX9_of_X9_in
set_option maxRecDepth 20000 in
theorem ggX9_of_X9_cost : GoodIn wsX9_of wsX9_cost := goodIn_r _ [21, 3, 2, 1, 7, 22, 23, 24, 25, 26, 11, 27, 28, 29, 30, 31, 32, 33, 34, 35, 36, 37, 38, 39, 40, 41, 42, 43, 44, 45, 46, 47, 48, 49, 50, 51, 52, 53, 54, 55, 130, 131, 132, 133, 134, 135, 136, 137, 138, 139, 140, 141, 142, 143, 144, 145, 146, 147, 148, 149, 150, 151, 152, 153, 154, 155, 156, 157, 158, 159, 160, 161, 162, 163, 164, 165, 166, 167, 168, 169, 170, 171, 172, 173, 174, 175, 176, 177, 178, 179, 180, 181, 182, 183, 184, 185, 186, 187, 188, 189, 190, 191, 192, 193, 194, 195, 196, 197, 198, 199, 200, 201, 202, 203, 204, 205, 206, 207, 208, 209, 210, 211, 212, 213, 214] (by decide +kernel) (by decide +kernel)
set_option maxRecDepth 20000 in
theorem gX9_of_X9_cost : GoodIn wsX9_of (wsV RX9 358 RX9 yX9_cost wsX9_cost) := goodIn_app (goodIn_of _ (by decide +kernel)) ggX9_of_X9_cost
set_option maxRecDepth 20000 in
theorem ggX9_of_X9_has : GoodIn wsX9_of wsX9_has := goodIn_r _ [59] (by decide +kernel) (by decide +kernel)
set_option maxRecDepth 20000 in
theorem gX9_of_X9_has : GoodIn wsX9_of (wsV RX9 270 RX9 yX9_has wsX9_has) := goodIn_app (goodIn_of _ (by decide +kernel)) ggX9_of_X9_has
set_option maxRecDepth 20000 in
theorem ggX9_of_X9_isFree : GoodIn wsX9_of wsX9_isFree := goodIn_r _ [63, 6, 4, 5, 56, 57, 58, 11, 59, 130, 131, 132, 133, 134, 135, 136, 137, 138, 139, 140, 141, 142, 143, 144, 145, 146, 147, 148, 149, 150, 151, 152, 153, 154, 155, 156, 157, 158, 159, 160, 161, 162, 163, 164, 165, 166, 167, 168, 169, 170, 171, 172, 173, 174, 175, 176, 177, 178, 179, 180, 181, 182, 183, 184, 185, 186, 187, 188, 189, 190, 191, 192, 193, 194, 195, 196, 197, 198, 199, 200, 201, 202, 203, 204, 205, 206, 207, 208, 209, 210, 211, 212, 213, 214] (by decide +kernel) (by decide +kernel)
set_option maxRecDepth 20000 in
theorem gX9_of_X9_isFree : GoodIn wsX9_of (wsV RX9 355 RX9 yX9_isFree wsX9_isFree) := goodIn_app (goodIn_of _ (by decide +kernel)) ggX9_of_X9_isFree
set_option maxRecDepth 20000 in
theorem ggX9_of_X9_stands : GoodIn wsX9_of wsX9_stands := goodIn_r _ [67, 68, 3, 69, 70, 71, 72, 11, 73, 74, 75, 6, 76, 77, 78, 79, 22, 80, 81, 82, 4, 83, 5, 84, 7, 85, 86, 87, 88, 89, 90, 91, 92, 13, 93, 94, 95, 96, 97, 98, 99, 100, 56, 57, 58, 59, 101, 102, 103, 104, 105, 106, 107, 108, 60, 61, 62, 63, 18, 19, 20, 21, 2, 1, 23, 24, 25, 26, 27, 28, 29, 30, 31, 32, 33, 34, 35, 36, 37, 38, 39, 40, 41, 42, 43, 44, 45, 46, 47, 48, 49, 50, 51, 52, 53, 54, 55, 109, 110, 111, 112, 113, 114, 115, 116, 117, 118, 119, 120, 121, 122, 123, 124, 125, 126, 127, 128, 129, 130, 131, 132, 133, 134, 135, 136, 137, 138, 139, 140, 141, 142, 143, 144, 145, 146, 147, 148, 149, 150, 151, 152, 153, 154, 155, 156, 157, 158, 159, 160, 161, 162, 163, 164, 165, 166, 167, 168, 169, 170, 171, 172, 173, 174, 175, 176, 177, 178, 179, 180, 181, 182, 183, 184, 185, 186, 187, 188, 189, 190, 191, 192, 193, 194, 195, 196, 197, 198, 199, 200, 201, 202, 203, 204, 205, 206, 207, 208, 209, 210, 211, 212, 213, 214] (by decide +kernel) (by decide +kernel)
set_option maxRecDepth 20000 in
theorem gX9_of_X9_stands : GoodIn wsX9_of (wsV RX9 401 RX9 yX9_stands wsX9_stands) := goodIn_app (goodIn_of _ (by decide +kernel)) ggX9_of_X9_stands
theorem dX9_of_0 : decode cX9_of 0 = .ok (.aload_n 0, 1) := by decide +kernel
theorem dX9_of_1 : decode cX9_of 1 = .ok (.iload_n 1, 1) := by decide +kernel
theorem dX9_of_2 : decode cX9_of 2 = .ok (.invokevirtual 282, 3) := by decide +kernel
theorem dX9_of_5 : decode cX9_of 5 = .ok (.ifCond .ne 7, 3) := by decide +kernel
theorem dX9_of_8 : decode cX9_of 8 = .ok (.sipush (-10001), 3) := by decide +kernel
theorem dX9_of_11 : decode cX9_of 11 = .ok (.ireturn, 1) := by decide +kernel
theorem dX9_of_12 : decode cX9_of 12 = .ok (.aload_n 0, 1) := by decide +kernel
theorem dX9_of_13 : decode cX9_of 13 = .ok (.iload_n 2, 1) := by decide +kernel
theorem dX9_of_14 : decode cX9_of 14 = .ok (.bipush 10, 2) := by decide +kernel
theorem dX9_of_16 : decode cX9_of 16 = .ok (.bipush 19, 2) := by decide +kernel
theorem dX9_of_18 : decode cX9_of 18 = .ok (.invokevirtual 274, 3) := by decide +kernel
theorem dX9_of_21 : decode cX9_of 21 = .ok (.ifCond .eq 13, 3) := by decide +kernel
theorem dX9_of_24 : decode cX9_of 24 = .ok (.aload_n 0, 1) := by decide +kernel
theorem dX9_of_25 : decode cX9_of 25 = .ok (.iload_n 1, 1) := by decide +kernel
theorem dX9_of_26 : decode cX9_of 26 = .ok (.iload_n 2, 1) := by decide +kernel
theorem dX9_of_27 : decode cX9_of 27 = .ok (.bipush 10, 2) := by decide +kernel
theorem dX9_of_29 : decode cX9_of 29 = .ok (.isub, 1) := by decide +kernel
theorem dX9_of_30 : decode cX9_of 30 = .ok (.invokevirtual 358, 3) := by decide +kernel
theorem dX9_of_33 : decode cX9_of 33 = .ok (.ireturn, 1) := by decide +kernel
theorem dX9_of_34 : decode cX9_of 34 = .ok (.iload_n 2, 1) := by decide +kernel
theorem dX9_of_35 : decode cX9_of 35 = .ok (.tableswitch 129 0 8 #[49, 56, 63, 70, 77, 84, 102, 109, 123], 49) := by decide +kernel
theorem dX9_of_84 : decode cX9_of 84 = .ok (.aload_n 0, 1) := by decide +kernel
theorem dX9_of_85 : decode cX9_of 85 = .ok (.getfield 25, 3) := by decide +kernel
theorem dX9_of_88 : decode cX9_of 88 = .ok (.iload_n 1, 1) := by decide +kernel
theorem dX9_of_89 : decode cX9_of 89 = .ok (.iaload, 1) := by decide +kernel
theorem dX9_of_90 : decode cX9_of 90 = .ok (.ireturn, 1) := by decide +kernel
theorem dX9_of_91 : decode cX9_of 91 = .ok (.aload_n 0, 1) := by decide +kernel
theorem dX9_of_92 : decode cX9_of 92 = .ok (.getfield 29, 3) := by decide +kernel
theorem dX9_of_95 : decode cX9_of 95 = .ok (.iload_n 1, 1) := by decide +kernel
theorem dX9_of_96 : decode cX9_of 96 = .ok (.iaload, 1) := by decide +kernel
theorem dX9_of_97 : decode cX9_of 97 = .ok (.ireturn, 1) := by decide +kernel
theorem dX9_of_98 : decode cX9_of 98 = .ok (.aload_n 0, 1) := by decide +kernel
theorem dX9_of_99 : decode cX9_of 99 = .ok (.getfield 32, 3) := by decide +kernel
theorem dX9_of_102 : decode cX9_of 102 = .ok (.iload_n 1, 1) := by decide +kernel
theorem dX9_of_103 : decode cX9_of 103 = .ok (.iaload, 1) := by decide +kernel
theorem dX9_of_104 : decode cX9_of 104 = .ok (.ireturn, 1) := by decide +kernel
theorem dX9_of_105 : decode cX9_of 105 = .ok (.aload_n 0, 1) := by decide +kernel
theorem dX9_of_106 : decode cX9_of 106 = .ok (.getfield 35, 3) := by decide +kernel
theorem dX9_of_109 : decode cX9_of 109 = .ok (.iload_n 1, 1) := by decide +kernel
theorem dX9_of_110 : decode cX9_of 110 = .ok (.iaload, 1) := by decide +kernel
theorem dX9_of_111 : decode cX9_of 111 = .ok (.ireturn, 1) := by decide +kernel
theorem dX9_of_112 : decode cX9_of 112 = .ok (.aload_n 0, 1) := by decide +kernel
theorem dX9_of_113 : decode cX9_of 113 = .ok (.getfield 38, 3) := by decide +kernel
theorem dX9_of_116 : decode cX9_of 116 = .ok (.iload_n 1, 1) := by decide +kernel
theorem dX9_of_117 : decode cX9_of 117 = .ok (.iaload, 1) := by decide +kernel
theorem dX9_of_118 : decode cX9_of 118 = .ok (.ireturn, 1) := by decide +kernel
theorem dX9_of_119 : decode cX9_of 119 = .ok (.aload_n 0, 1) := by decide +kernel
theorem dX9_of_120 : decode cX9_of 120 = .ok (.aload_n 0, 1) := by decide +kernel
theorem dX9_of_121 : decode cX9_of 121 = .ok (.getfield 13, 3) := by decide +kernel
theorem dX9_of_124 : decode cX9_of 124 = .ok (.iload_n 1, 1) := by decide +kernel
theorem dX9_of_125 : decode cX9_of 125 = .ok (.invokevirtual 270, 3) := by decide +kernel
theorem dX9_of_128 : decode cX9_of 128 = .ok (.ifCond .eq 7, 3) := by decide +kernel
theorem dX9_of_131 : decode cX9_of 131 = .ok (.iconst 1, 1) := by decide +kernel
theorem dX9_of_132 : decode cX9_of 132 = .ok (.goto 4, 3) := by decide +kernel
theorem dX9_of_135 : decode cX9_of 135 = .ok (.iconst 0, 1) := by decide +kernel
theorem dX9_of_136 : decode cX9_of 136 = .ok (.ireturn, 1) := by decide +kernel
theorem dX9_of_137 : decode cX9_of 137 = .ok (.aload_n 0, 1) := by decide +kernel
theorem dX9_of_138 : decode cX9_of 138 = .ok (.getfield 41, 3) := by decide +kernel
theorem dX9_of_141 : decode cX9_of 141 = .ok (.iload_n 1, 1) := by decide +kernel
theorem dX9_of_142 : decode cX9_of 142 = .ok (.iaload, 1) := by decide +kernel
theorem dX9_of_143 : decode cX9_of 143 = .ok (.ireturn, 1) := by decide +kernel
theorem dX9_of_144 : decode cX9_of 144 = .ok (.aload_n 0, 1) := by decide +kernel
theorem dX9_of_145 : decode cX9_of 145 = .ok (.iload_n 1, 1) := by decide +kernel
theorem dX9_of_146 : decode cX9_of 146 = .ok (.invokevirtual 355, 3) := by decide +kernel
theorem dX9_of_149 : decode cX9_of 149 = .ok (.ifCond .eq 7, 3) := by decide +kernel
theorem dX9_of_152 : decode cX9_of 152 = .ok (.iconst 1, 1) := by decide +kernel
theorem dX9_of_153 : decode cX9_of 153 = .ok (.goto 4, 3) := by decide +kernel
theorem dX9_of_156 : decode cX9_of 156 = .ok (.iconst 0, 1) := by decide +kernel
theorem dX9_of_157 : decode cX9_of 157 = .ok (.ireturn, 1) := by decide +kernel
theorem dX9_of_158 : decode cX9_of 158 = .ok (.aload_n 0, 1) := by decide +kernel
theorem dX9_of_159 : decode cX9_of 159 = .ok (.iload_n 1, 1) := by decide +kernel
theorem dX9_of_160 : decode cX9_of 160 = .ok (.invokevirtual 401, 3) := by decide +kernel
theorem dX9_of_163 : decode cX9_of 163 = .ok (.ireturn, 1) := by decide +kernel
theorem dX9_of_164 : decode cX9_of 164 = .ok (.sipush (-10001), 3) := by decide +kernel
theorem dX9_of_167 : decode cX9_of 167 = .ok (.ireturn, 1) := by decide +kernel
set_option maxRecDepth 20000 in
theorem ggX9_quiet_X9_save : GoodIn wsX9_quiet wsX9_save := goodIn_r _ [6, 7, 8, 9, 10, 11, 1, 12, 13, 14, 15, 16, 17, 18, 19, 20, 21, 22, 23, 24, 114, 115, 116, 117, 118, 119, 120, 121, 122, 123, 124, 125, 126, 127, 128, 129, 130, 131, 132, 133, 134, 135, 136, 137, 138, 139, 140, 141, 142, 143, 144, 145, 146, 147, 148, 149, 150, 151, 152, 153, 154, 155, 156, 157, 158, 159, 160, 161, 162, 163, 164, 165, 166, 167, 168, 169, 170, 171, 172, 173, 174, 175, 176, 177, 178, 179, 180, 181, 182, 183, 184, 185, 186, 187, 188, 189, 190, 191, 192, 193, 194, 195, 196, 197, 198] (by decide +kernel) (by decide +kernel)
set_option maxRecDepth 20000 in
theorem gX9_quiet_X9_save : GoodIn wsX9_quiet (wsV RX9 395 RX9 yX9_save wsX9_save) := goodIn_app (goodIn_of _ (by decide +kernel)) ggX9_quiet_X9_save
set_option maxRecDepth 20000 in
theorem ggX9_quiet_X9_goMinute : GoodIn wsX9_quiet wsX9_goMinute := goodIn_r _ [28, 29, 10, 20, 22, 13, 1, 9, 15, 30, 31, 32, 5, 33, 34, 35, 36, 37, 38, 39, 40, 41, 42, 43, 44, 45, 46, 47, 48, 49, 50, 51, 52, 53, 54, 55, 56, 57, 18, 58, 59, 24, 60, 61, 62, 63, 64, 65, 66, 67, 68, 69, 70, 71, 72, 73, 74, 75, 76, 77, 78, 79, 80, 81, 82, 83, 84, 85, 86, 87, 88, 89, 90, 91, 92, 93, 94, 95, 96, 8, 97, 98, 99, 100, 101, 102, 103, 104, 105, 106, 107, 108, 114, 115, 116, 117, 118, 119, 120, 121, 122, 123, 124, 125, 126, 127, 128, 129, 130, 131, 132, 133, 134, 135, 136, 137, 138, 139, 140, 141, 142, 143, 144, 145, 146, 147, 148, 149, 150, 151, 152, 153, 154, 155, 156, 157, 158, 159, 160, 161, 162, 163, 164, 165, 166, 167, 168, 169, 170, 171, 172, 173, 174, 175, 176, 177, 178, 179, 180, 181, 182, 183, 184, 185, 186, 187, 188, 189, 190, 191, 192, 193, 194, 195, 196, 197, 198] (by decide +kernel) (by decide +kernel)
set_option maxRecDepth 20000 in
theorem gX9_quiet_X9_goMinute : GoodIn wsX9_quiet (wsV RX9 385 RX9 yX9_goMinute wsX9_goMinute) := goodIn_app (goodIn_of _ (by decide +kernel)) ggX9_quiet_X9_goMinute
set_option maxRecDepth 20000 in
theorem ggX9_quiet_X9_putBack : GoodIn wsX9_quiet wsX9_putBack := goodIn_r _ [112, 8, 113, 9, 11, 10, 12, 1, 14, 13, 16, 15, 18, 17, 20, 19, 22, 21, 24, 23, 114, 115, 116, 117, 118, 119, 120, 121, 122, 123, 124, 125, 126, 127, 128, 129, 130, 131, 132, 133, 134, 135, 136, 137, 138, 139, 140, 141, 142, 143, 144, 145, 146, 147, 148, 149, 150, 151, 152, 153, 154, 155, 156, 157, 158, 159, 160, 161, 162, 163, 164, 165, 166, 167, 168, 169, 170, 171, 172, 173, 174, 175, 176, 177, 178, 179, 180, 181, 182, 183, 184, 185, 186, 187, 188, 189, 190, 191, 192, 193, 194, 195, 196, 197, 198] (by decide +kernel) (by decide +kernel)
set_option maxRecDepth 20000 in
theorem gX9_quiet_X9_putBack : GoodIn wsX9_quiet (wsV RX9 398 RX9 yX9_putBack wsX9_putBack) := goodIn_app (goodIn_of _ (by decide +kernel)) ggX9_quiet_X9_putBack
theorem dX9_quiet_0 : decode cX9_quiet 0 = .ok (.aload_n 0, 1) := by decide +kernel
theorem dX9_quiet_1 : decode cX9_quiet 1 = .ok (.invokevirtual 395, 3) := by decide +kernel
theorem dX9_quiet_4 : decode cX9_quiet 4 = .ok (.iconst 0, 1) := by decide +kernel
theorem dX9_quiet_5 : decode cX9_quiet 5 = .ok (.istore_n 1, 1) := by decide +kernel
theorem dX9_quiet_6 : decode cX9_quiet 6 = .ok (.iload_n 1, 1) := by decide +kernel
theorem dX9_quiet_7 : decode cX9_quiet 7 = .ok (.bipush 61, 2) := by decide +kernel
theorem dX9_quiet_9 : decode cX9_quiet 9 = .ok (.if_icmp .ge 20, 3) := by decide +kernel
theorem dX9_quiet_12 : decode cX9_quiet 12 = .ok (.aload_n 0, 1) := by decide +kernel
theorem dX9_quiet_13 : decode cX9_quiet 13 = .ok (.getfield 16, 3) := by decide +kernel
theorem dX9_quiet_16 : decode cX9_quiet 16 = .ok (.ifCond .eq 13, 3) := by decide +kernel
theorem dX9_quiet_19 : decode cX9_quiet 19 = .ok (.aload_n 0, 1) := by decide +kernel
theorem dX9_quiet_20 : decode cX9_quiet 20 = .ok (.invokevirtual 385, 3) := by decide +kernel
theorem dX9_quiet_23 : decode cX9_quiet 23 = .ok (.iinc 1 1, 3) := by decide +kernel
theorem dX9_quiet_26 : decode cX9_quiet 26 = .ok (.goto (-20), 3) := by decide +kernel
theorem dX9_quiet_29 : decode cX9_quiet 29 = .ok (.aload_n 0, 1) := by decide +kernel
theorem dX9_quiet_30 : decode cX9_quiet 30 = .ok (.invokevirtual 398, 3) := by decide +kernel
theorem dX9_quiet_33 : decode cX9_quiet 33 = .ok (.iload_n 1, 1) := by decide +kernel
theorem dX9_quiet_34 : decode cX9_quiet 34 = .ok (.bipush 61, 2) := by decide +kernel
theorem dX9_quiet_36 : decode cX9_quiet 36 = .ok (.if_icmp .ge 7, 3) := by decide +kernel
theorem dX9_quiet_39 : decode cX9_quiet 39 = .ok (.iload_n 1, 1) := by decide +kernel
theorem dX9_quiet_40 : decode cX9_quiet 40 = .ok (.goto 5, 3) := by decide +kernel
theorem dX9_quiet_43 : decode cX9_quiet 43 = .ok (.bipush (-5), 2) := by decide +kernel
theorem dX9_quiet_45 : decode cX9_quiet 45 = .ok (.ireturn, 1) := by decide +kernel
theorem dX9_loop_0 : decode cX9_loop 0 = .ok (.iconst 1, 1) := by decide +kernel
theorem dX9_loop_1 : decode cX9_loop 1 = .ok (.istore_n 2, 1) := by decide +kernel
theorem dX9_loop_2 : decode cX9_loop 2 = .ok (.aload_n 0, 1) := by decide +kernel
theorem dX9_loop_3 : decode cX9_loop 3 = .ok (.getfield 47, 3) := by decide +kernel
theorem dX9_loop_6 : decode cX9_loop 6 = .ok (.iload_n 1, 1) := by decide +kernel
theorem dX9_loop_7 : decode cX9_loop 7 = .ok (.iaload, 1) := by decide +kernel
theorem dX9_loop_8 : decode cX9_loop 8 = .ok (.istore_n 3, 1) := by decide +kernel
theorem dX9_loop_9 : decode cX9_loop 9 = .ok (.iload_n 3, 1) := by decide +kernel
theorem dX9_loop_10 : decode cX9_loop 10 = .ok (.iload_n 1, 1) := by decide +kernel
theorem dX9_loop_11 : decode cX9_loop 11 = .ok (.if_icmp .eq 16, 3) := by decide +kernel
theorem dX9_loop_14 : decode cX9_loop 14 = .ok (.aload_n 0, 1) := by decide +kernel
theorem dX9_loop_15 : decode cX9_loop 15 = .ok (.getfield 47, 3) := by decide +kernel
theorem dX9_loop_18 : decode cX9_loop 18 = .ok (.iload_n 3, 1) := by decide +kernel
theorem dX9_loop_19 : decode cX9_loop 19 = .ok (.iaload, 1) := by decide +kernel
theorem dX9_loop_20 : decode cX9_loop 20 = .ok (.istore_n 3, 1) := by decide +kernel
theorem dX9_loop_21 : decode cX9_loop 21 = .ok (.iinc 2 1, 3) := by decide +kernel
theorem dX9_loop_24 : decode cX9_loop 24 = .ok (.goto (-15), 3) := by decide +kernel
theorem dX9_loop_27 : decode cX9_loop 27 = .ok (.iload_n 2, 1) := by decide +kernel
theorem dX9_loop_28 : decode cX9_loop 28 = .ok (.ireturn, 1) := by decide +kernel
set_option maxRecDepth 20000 in
theorem ggX9_crossed_X9_has : GoodIn wsX9_crossed wsX9_has := goodIn_r _ [6] (by decide +kernel) (by decide +kernel)
set_option maxRecDepth 20000 in
theorem gX9_crossed_X9_has : GoodIn wsX9_crossed (wsV RX9 270 RX9 yX9_has wsX9_has) := goodIn_app (goodIn_of _ (by decide +kernel)) ggX9_crossed_X9_has
set_option maxRecDepth 20000 in
theorem ggX9_crossed_X9_loop : GoodIn wsX9_crossed wsX9_loop := goodIn_r _ [10, 1, 11, 12, 13, 14, 15, 16, 17, 18, 19, 20, 21, 22, 23, 24, 25, 26, 27, 28, 29, 30, 31, 32, 33, 34, 35, 36, 37, 38, 39, 40, 41, 42, 43, 44, 45, 46, 47, 48, 49, 50, 51, 52, 53, 54, 55, 56, 57, 58, 59, 60, 61, 62, 63, 64, 65, 66, 67, 68, 69, 70, 71, 72, 73, 74, 75, 76, 77, 78, 79, 80, 81, 82, 83, 84, 85, 86, 87, 88, 89, 90, 91, 92, 93, 94, 95] (by decide +kernel) (by decide +kernel)
set_option maxRecDepth 20000 in
theorem gX9_crossed_X9_loop : GoodIn wsX9_crossed (wsV RX9 404 RX9 yX9_loop wsX9_loop) := goodIn_app (goodIn_of _ (by decide +kernel)) ggX9_crossed_X9_loop
theorem dX9_crossed_0 : decode cX9_crossed 0 = .ok (.iconst 0, 1) := by decide +kernel
theorem dX9_crossed_1 : decode cX9_crossed 1 = .ok (.istore_n 1, 1) := by decide +kernel
theorem dX9_crossed_2 : decode cX9_crossed 2 = .ok (.iconst 0, 1) := by decide +kernel
theorem dX9_crossed_3 : decode cX9_crossed 3 = .ok (.istore_n 2, 1) := by decide +kernel
theorem dX9_crossed_4 : decode cX9_crossed 4 = .ok (.iconst 0, 1) := by decide +kernel
theorem dX9_crossed_5 : decode cX9_crossed 5 = .ok (.istore_n 3, 1) := by decide +kernel
theorem dX9_crossed_6 : decode cX9_crossed 6 = .ok (.iload_n 3, 1) := by decide +kernel
theorem dX9_crossed_7 : decode cX9_crossed 7 = .ok (.bipush 10, 2) := by decide +kernel
theorem dX9_crossed_9 : decode cX9_crossed 9 = .ok (.if_icmp .ge 63, 3) := by decide +kernel
theorem dX9_crossed_12 : decode cX9_crossed 12 = .ok (.aload_n 0, 1) := by decide +kernel
theorem dX9_crossed_13 : decode cX9_crossed 13 = .ok (.iload_n 2, 1) := by decide +kernel
theorem dX9_crossed_14 : decode cX9_crossed 14 = .ok (.iload_n 3, 1) := by decide +kernel
theorem dX9_crossed_15 : decode cX9_crossed 15 = .ok (.invokevirtual 270, 3) := by decide +kernel
theorem dX9_crossed_18 : decode cX9_crossed 18 = .ok (.ifCond .eq 6, 3) := by decide +kernel
theorem dX9_crossed_21 : decode cX9_crossed 21 = .ok (.goto 45, 3) := by decide +kernel
theorem dX9_crossed_24 : decode cX9_crossed 24 = .ok (.iload_n 1, 1) := by decide +kernel
theorem dX9_crossed_25 : decode cX9_crossed 25 = .ok (.aload_n 0, 1) := by decide +kernel
theorem dX9_crossed_26 : decode cX9_crossed 26 = .ok (.iload_n 3, 1) := by decide +kernel
theorem dX9_crossed_27 : decode cX9_crossed 27 = .ok (.invokevirtual 404, 3) := by decide +kernel
theorem dX9_crossed_30 : decode cX9_crossed 30 = .ok (.iconst 1, 1) := by decide +kernel
theorem dX9_crossed_31 : decode cX9_crossed 31 = .ok (.isub, 1) := by decide +kernel
theorem dX9_crossed_32 : decode cX9_crossed 32 = .ok (.iadd, 1) := by decide +kernel
theorem dX9_crossed_33 : decode cX9_crossed 33 = .ok (.istore_n 1, 1) := by decide +kernel
theorem dX9_crossed_34 : decode cX9_crossed 34 = .ok (.iload_n 3, 1) := by decide +kernel
theorem dX9_crossed_35 : decode cX9_crossed 35 = .ok (.istore 4, 2) := by decide +kernel
theorem dX9_crossed_37 : decode cX9_crossed 37 = .ok (.aload_n 0, 1) := by decide +kernel
theorem dX9_crossed_38 : decode cX9_crossed 38 = .ok (.iload_n 2, 1) := by decide +kernel
theorem dX9_crossed_39 : decode cX9_crossed 39 = .ok (.iload 4, 2) := by decide +kernel
theorem dX9_crossed_41 : decode cX9_crossed 41 = .ok (.invokevirtual 270, 3) := by decide +kernel
theorem dX9_crossed_44 : decode cX9_crossed 44 = .ok (.ifCond .ne 22, 3) := by decide +kernel
theorem dX9_crossed_47 : decode cX9_crossed 47 = .ok (.iload_n 2, 1) := by decide +kernel
theorem dX9_crossed_48 : decode cX9_crossed 48 = .ok (.iconst 1, 1) := by decide +kernel
theorem dX9_crossed_49 : decode cX9_crossed 49 = .ok (.iload 4, 2) := by decide +kernel
theorem dX9_crossed_51 : decode cX9_crossed 51 = .ok (.ishl, 1) := by decide +kernel
theorem dX9_crossed_52 : decode cX9_crossed 52 = .ok (.ior, 1) := by decide +kernel
theorem dX9_crossed_53 : decode cX9_crossed 53 = .ok (.istore_n 2, 1) := by decide +kernel
theorem dX9_crossed_54 : decode cX9_crossed 54 = .ok (.aload_n 0, 1) := by decide +kernel
theorem dX9_crossed_55 : decode cX9_crossed 55 = .ok (.getfield 47, 3) := by decide +kernel
theorem dX9_crossed_58 : decode cX9_crossed 58 = .ok (.iload 4, 2) := by decide +kernel
theorem dX9_crossed_60 : decode cX9_crossed 60 = .ok (.iaload, 1) := by decide +kernel
theorem dX9_crossed_61 : decode cX9_crossed 61 = .ok (.istore 4, 2) := by decide +kernel
theorem dX9_crossed_63 : decode cX9_crossed 63 = .ok (.goto (-26), 3) := by decide +kernel
theorem dX9_crossed_66 : decode cX9_crossed 66 = .ok (.iinc 3 1, 3) := by decide +kernel
theorem dX9_crossed_69 : decode cX9_crossed 69 = .ok (.goto (-63), 3) := by decide +kernel
theorem dX9_crossed_72 : decode cX9_crossed 72 = .ok (.iload_n 1, 1) := by decide +kernel
theorem dX9_crossed_73 : decode cX9_crossed 73 = .ok (.ireturn, 1) := by decide +kernel
theorem dX9_firstCrossed_0 : decode cX9_firstCrossed 0 = .ok (.iconst 0, 1) := by decide +kernel
theorem dX9_firstCrossed_1 : decode cX9_firstCrossed 1 = .ok (.istore_n 1, 1) := by decide +kernel
theorem dX9_firstCrossed_2 : decode cX9_firstCrossed 2 = .ok (.iload_n 1, 1) := by decide +kernel
theorem dX9_firstCrossed_3 : decode cX9_firstCrossed 3 = .ok (.bipush 10, 2) := by decide +kernel
theorem dX9_firstCrossed_5 : decode cX9_firstCrossed 5 = .ok (.if_icmp .ge 21, 3) := by decide +kernel
theorem dX9_firstCrossed_8 : decode cX9_firstCrossed 8 = .ok (.aload_n 0, 1) := by decide +kernel
theorem dX9_firstCrossed_9 : decode cX9_firstCrossed 9 = .ok (.getfield 47, 3) := by decide +kernel
theorem dX9_firstCrossed_12 : decode cX9_firstCrossed 12 = .ok (.iload_n 1, 1) := by decide +kernel
theorem dX9_firstCrossed_13 : decode cX9_firstCrossed 13 = .ok (.iaload, 1) := by decide +kernel
theorem dX9_firstCrossed_14 : decode cX9_firstCrossed 14 = .ok (.iload_n 1, 1) := by decide +kernel
theorem dX9_firstCrossed_15 : decode cX9_firstCrossed 15 = .ok (.if_icmp .eq 5, 3) := by decide +kernel
theorem dX9_firstCrossed_18 : decode cX9_firstCrossed 18 = .ok (.iload_n 1, 1) := by decide +kernel
theorem dX9_firstCrossed_19 : decode cX9_firstCrossed 19 = .ok (.ireturn, 1) := by decide +kernel
theorem dX9_firstCrossed_20 : decode cX9_firstCrossed 20 = .ok (.iinc 1 1, 3) := by decide +kernel
theorem dX9_firstCrossed_23 : decode cX9_firstCrossed 23 = .ok (.goto (-21), 3) := by decide +kernel
theorem dX9_firstCrossed_26 : decode cX9_firstCrossed 26 = .ok (.bipush (-5), 2) := by decide +kernel
theorem dX9_firstCrossed_28 : decode cX9_firstCrossed 28 = .ok (.ireturn, 1) := by decide +kernel
set_option maxRecDepth 20000 in
theorem ggX9_told_X9_in : GoodIn wsX9_told wsX9_in := goodIn_r _ [9] (by decide +kernel) (by decide +kernel)
set_option maxRecDepth 20000 in
theorem gX9_told_X9_in : GoodIn wsX9_told (wsV RX9 274 RX9 yX9_in wsX9_in) := goodIn_app (goodIn_of _ (by decide +kernel)) ggX9_told_X9_in
set_option maxRecDepth 20000 in
theorem ggX9_told_X9_loop : GoodIn wsX9_told wsX9_loop := goodIn_r _ [13, 1, 135, 136, 137, 138, 139, 140, 141, 142, 143, 144, 145, 146, 147, 148, 149, 150, 151, 152, 153, 154, 155, 156, 157, 158, 159, 160, 161, 162, 163, 164, 165, 166, 167, 168, 169, 170, 171, 172, 173, 174, 175, 176, 177, 178, 179, 180, 181, 182, 183, 184, 185, 186, 187, 188, 189, 190, 191, 192, 193, 194, 195, 196, 197, 198, 199, 200, 201, 202, 203, 204, 205, 206, 207, 208, 209, 210, 211, 212, 213, 214, 215, 216, 217, 218, 219] (by decide +kernel) (by decide +kernel)
set_option maxRecDepth 20000 in
theorem gX9_told_X9_loop : GoodIn wsX9_told (wsV RX9 404 RX9 yX9_loop wsX9_loop) := goodIn_app (goodIn_of _ (by decide +kernel)) ggX9_told_X9_loop
set_option maxRecDepth 20000 in
theorem ggX9_told_X9_rest : GoodIn wsX9_told wsX9_rest := goodIn_r _ [17, 18, 19, 20, 21, 22, 8, 23, 24, 25, 26, 27, 28, 29, 135, 136, 137, 138, 139, 140, 141, 142, 143, 144, 145, 146, 147, 148, 149, 150, 151, 152, 153, 154, 155, 156, 157, 158, 159, 160, 161, 162, 163, 164, 165, 166, 167, 168, 169, 170, 171, 172, 173, 174, 175, 176, 177, 178, 179, 180, 181, 182, 183, 184, 185, 186, 187, 188, 189, 190, 191, 192, 193, 194, 195, 196, 197, 198, 199, 200, 201, 202, 203, 204, 205, 206, 207, 208, 209, 210, 211, 212, 213, 214, 215, 216, 217, 218, 219] (by decide +kernel) (by decide +kernel)
set_option maxRecDepth 20000 in
theorem gX9_told_X9_rest : GoodIn wsX9_told (wsV RX9 373 RX9 yX9_rest wsX9_rest) := goodIn_app (goodIn_of _ (by decide +kernel)) ggX9_told_X9_rest
set_option maxRecDepth 20000 in
theorem ggX9_told_X9_quiet : GoodIn wsX9_told wsX9_quiet := goodIn_r _ [33, 3, 34, 35, 36, 8, 37, 38, 39, 40, 41, 42, 43, 4, 44, 2, 45, 46, 47, 48, 49, 50, 51, 52, 53, 54, 55, 56, 57, 58, 59, 60, 61, 62, 63, 64, 65, 66, 67, 68, 69, 70, 71, 72, 73, 74, 75, 76, 77, 78, 79, 80, 81, 82, 83, 84, 85, 86, 87, 88, 89, 90, 91, 92, 93, 18, 19, 94, 95, 96, 97, 20, 21, 22, 23, 24, 25, 26, 27, 28, 29, 98, 99, 100, 101, 102, 103, 104, 105, 106, 107, 108, 109, 110, 111, 112, 113, 114, 115, 116, 117, 14, 15, 16, 17, 118, 119, 120, 121, 122, 123, 124, 125, 126, 135, 136, 137, 138, 139, 140, 141, 142, 143, 144, 145, 146, 147, 148, 149, 150, 151, 152, 153, 154, 155, 156, 157, 158, 159, 160, 161, 162, 163, 164, 165, 166, 167, 168, 169, 170, 171, 172, 173, 174, 175, 176, 177, 178, 179, 180, 181, 182, 183, 184, 185, 186, 187, 188, 189, 190, 191, 192, 193, 194, 195, 196, 197, 198, 199, 200, 201, 202, 203, 204, 205, 206, 207, 208, 209, 210, 211, 212, 213, 214, 215, 216, 217, 218, 219] (by decide +kernel) (by decide +kernel)
set_option maxRecDepth 20000 in
theorem gX9_told_X9_quiet : GoodIn wsX9_told (wsV RX9 407 RX9 yX9_quiet wsX9_quiet) := goodIn_app (goodIn_of _ (by decide +kernel)) ggX9_told_X9_quiet
set_option maxRecDepth 20000 in
theorem ggX9_told_X9_crossed : GoodIn wsX9_told wsX9_crossed := goodIn_r _ [130, 1, 67, 68, 69, 8, 70, 10, 11, 12, 13, 135, 136, 137, 138, 139, 140, 141, 142, 143, 144, 145, 146, 147, 148, 149, 150, 151, 152, 153, 154, 155, 156, 157, 158, 159, 160, 161, 162, 163, 164, 165, 166, 167, 168, 169, 170, 171, 172, 173, 174, 175, 176, 177, 178, 179, 180, 181, 182, 183, 184, 185, 186, 187, 188, 189, 190, 191, 192, 193, 194, 195, 196, 197, 198, 199, 200, 201, 202, 203, 204, 205, 206, 207, 208, 209, 210, 211, 212, 213, 214, 215, 216, 217, 218, 219] (by decide +kernel) (by decide +kernel)
set_option maxRecDepth 20000 in
theorem gX9_told_X9_crossed : GoodIn wsX9_told (wsV RX9 410 RX9 yX9_crossed wsX9_crossed) := goodIn_app (goodIn_of _ (by decide +kernel)) ggX9_told_X9_crossed
set_option maxRecDepth 20000 in
theorem ggX9_told_X9_firstCrossed : GoodIn wsX9_told wsX9_firstCrossed := goodIn_r _ [134, 1, 135, 136, 137, 138, 139, 140, 141, 142, 143, 144, 145, 146, 147, 148, 149, 150, 151, 152, 153, 154, 155, 156, 157, 158, 159, 160, 161, 162, 163, 164, 165, 166, 167, 168, 169, 170, 171, 172, 173, 174, 175, 176, 177, 178, 179, 180, 181, 182, 183, 184, 185, 186, 187, 188, 189, 190, 191, 192, 193, 194, 195, 196, 197, 198, 199, 200, 201, 202, 203, 204, 205, 206, 207, 208, 209, 210, 211, 212, 213, 214, 215, 216, 217, 218, 219] (by decide +kernel) (by decide +kernel)
set_option maxRecDepth 20000 in
theorem gX9_told_X9_firstCrossed : GoodIn wsX9_told (wsV RX9 413 RX9 yX9_firstCrossed wsX9_firstCrossed) := goodIn_app (goodIn_of _ (by decide +kernel)) ggX9_told_X9_firstCrossed
theorem dX9_told_0 : decode cX9_told 0 = .ok (.aload_n 0, 1) := by decide +kernel
theorem dX9_told_1 : decode cX9_told 1 = .ok (.iload_n 1, 1) := by decide +kernel
theorem dX9_told_2 : decode cX9_told 2 = .ok (.bipush 10, 2) := by decide +kernel
theorem dX9_told_4 : decode cX9_told 4 = .ok (.bipush 19, 2) := by decide +kernel
theorem dX9_told_6 : decode cX9_told 6 = .ok (.invokevirtual 274, 3) := by decide +kernel
theorem dX9_told_9 : decode cX9_told 9 = .ok (.ifCond .eq 13, 3) := by decide +kernel
theorem dX9_told_12 : decode cX9_told 12 = .ok (.aload_n 0, 1) := by decide +kernel
theorem dX9_told_13 : decode cX9_told 13 = .ok (.getfield 47, 3) := by decide +kernel
theorem dX9_told_16 : decode cX9_told 16 = .ok (.iload_n 1, 1) := by decide +kernel
theorem dX9_told_17 : decode cX9_told 17 = .ok (.bipush 10, 2) := by decide +kernel
theorem dX9_told_19 : decode cX9_told 19 = .ok (.isub, 1) := by decide +kernel
theorem dX9_told_20 : decode cX9_told 20 = .ok (.iaload, 1) := by decide +kernel
theorem dX9_told_21 : decode cX9_told 21 = .ok (.ireturn, 1) := by decide +kernel
theorem dX9_told_22 : decode cX9_told 22 = .ok (.aload_n 0, 1) := by decide +kernel
theorem dX9_told_23 : decode cX9_told 23 = .ok (.iload_n 1, 1) := by decide +kernel
theorem dX9_told_24 : decode cX9_told 24 = .ok (.bipush 20, 2) := by decide +kernel
theorem dX9_told_26 : decode cX9_told 26 = .ok (.bipush 29, 2) := by decide +kernel
theorem dX9_told_28 : decode cX9_told 28 = .ok (.invokevirtual 274, 3) := by decide +kernel
theorem dX9_told_31 : decode cX9_told 31 = .ok (.ifCond .eq 12, 3) := by decide +kernel
theorem dX9_told_34 : decode cX9_told 34 = .ok (.aload_n 0, 1) := by decide +kernel
theorem dX9_told_35 : decode cX9_told 35 = .ok (.iload_n 1, 1) := by decide +kernel
theorem dX9_told_36 : decode cX9_told 36 = .ok (.bipush 20, 2) := by decide +kernel
theorem dX9_told_38 : decode cX9_told 38 = .ok (.isub, 1) := by decide +kernel
theorem dX9_told_39 : decode cX9_told 39 = .ok (.invokevirtual 404, 3) := by decide +kernel
theorem dX9_told_42 : decode cX9_told 42 = .ok (.ireturn, 1) := by decide +kernel
theorem dX9_told_43 : decode cX9_told 43 = .ok (.iload_n 1, 1) := by decide +kernel
theorem dX9_told_44 : decode cX9_told 44 = .ok (.tableswitch 79 0 6 #[44, 49, 54, 59, 64, 69, 74], 44) := by decide +kernel
theorem dX9_told_88 : decode cX9_told 88 = .ok (.aload_n 0, 1) := by decide +kernel
theorem dX9_told_89 : decode cX9_told 89 = .ok (.getfield 22, 3) := by decide +kernel
theorem dX9_told_92 : decode cX9_told 92 = .ok (.ireturn, 1) := by decide +kernel
theorem dX9_told_93 : decode cX9_told 93 = .ok (.aload_n 0, 1) := by decide +kernel
theorem dX9_told_94 : decode cX9_told 94 = .ok (.invokevirtual 373, 3) := by decide +kernel
theorem dX9_told_97 : decode cX9_told 97 = .ok (.ireturn, 1) := by decide +kernel
theorem dX9_told_98 : decode cX9_told 98 = .ok (.aload_n 0, 1) := by decide +kernel
theorem dX9_told_99 : decode cX9_told 99 = .ok (.getfield 16, 3) := by decide +kernel
theorem dX9_told_102 : decode cX9_told 102 = .ok (.ireturn, 1) := by decide +kernel
theorem dX9_told_103 : decode cX9_told 103 = .ok (.aload_n 0, 1) := by decide +kernel
theorem dX9_told_104 : decode cX9_told 104 = .ok (.getfield 19, 3) := by decide +kernel
theorem dX9_told_107 : decode cX9_told 107 = .ok (.ireturn, 1) := by decide +kernel
theorem dX9_told_108 : decode cX9_told 108 = .ok (.aload_n 0, 1) := by decide +kernel
theorem dX9_told_109 : decode cX9_told 109 = .ok (.invokevirtual 407, 3) := by decide +kernel
theorem dX9_told_112 : decode cX9_told 112 = .ok (.ireturn, 1) := by decide +kernel
theorem dX9_told_113 : decode cX9_told 113 = .ok (.aload_n 0, 1) := by decide +kernel
theorem dX9_told_114 : decode cX9_told 114 = .ok (.invokevirtual 410, 3) := by decide +kernel
theorem dX9_told_117 : decode cX9_told 117 = .ok (.ireturn, 1) := by decide +kernel
theorem dX9_told_118 : decode cX9_told 118 = .ok (.aload_n 0, 1) := by decide +kernel
theorem dX9_told_119 : decode cX9_told 119 = .ok (.invokevirtual 413, 3) := by decide +kernel
theorem dX9_told_122 : decode cX9_told 122 = .ok (.ireturn, 1) := by decide +kernel
theorem dX9_told_123 : decode cX9_told 123 = .ok (.iconst (-1), 1) := by decide +kernel
theorem dX9_told_124 : decode cX9_told 124 = .ok (.ireturn, 1) := by decide +kernel
set_option maxRecDepth 20000 in
theorem ggX9_on_X9_in : GoodIn wsX9_on wsX9_in := goodIn_r _ [10] (by decide +kernel) (by decide +kernel)
set_option maxRecDepth 20000 in
theorem gX9_on_X9_in : GoodIn wsX9_on (wsV RX9 274 RX9 yX9_in wsX9_in) := goodIn_app (goodIn_of _ (by decide +kernel)) ggX9_on_X9_in
set_option maxRecDepth 20000 in
theorem ggX9_on_X9_isMinutes : GoodIn wsX9_on wsX9_isMinutes := goodIn_r _ [14, 6, 7, 8, 9, 10] (by decide +kernel) (by decide +kernel)
set_option maxRecDepth 20000 in
theorem gX9_on_X9_isMinutes : GoodIn wsX9_on (wsV RX9 388 RX9 yX9_isMinutes wsX9_isMinutes) := goodIn_app (goodIn_of _ (by decide +kernel)) ggX9_on_X9_isMinutes
set_option maxRecDepth 20000 in
theorem ggX9_on_X9_save : GoodIn wsX9_on wsX9_save := goodIn_r _ [18, 19, 20, 21, 22, 23, 2, 24, 3, 25, 26, 27, 28, 4, 29, 5, 30, 31, 32, 33, 126, 127, 128, 129, 130, 131, 132, 133, 134, 135, 136, 137, 138, 139, 140, 141, 142, 143, 144, 145, 146, 147, 148, 149, 150, 151, 152, 153, 154, 155, 156, 157, 158, 159, 160, 161, 162, 163, 164, 165, 166, 167, 168, 169, 170, 171, 172, 173, 174, 175, 176, 177, 178, 179, 180, 181, 182, 183, 184, 185, 186, 187, 188, 189, 190, 191, 192, 193, 194, 195, 196, 197, 198, 199, 200, 201, 202, 203, 204, 205, 206, 207, 208, 209, 210] (by decide +kernel) (by decide +kernel)
set_option maxRecDepth 20000 in
theorem gX9_on_X9_save : GoodIn wsX9_on (wsV RX9 395 RX9 yX9_save wsX9_save) := goodIn_app (goodIn_of _ (by decide +kernel)) ggX9_on_X9_save
set_option maxRecDepth 20000 in
theorem ggX9_on_X9_goMinutes : GoodIn wsX9_on wsX9_goMinutes := goodIn_r _ [37, 38, 39, 40, 9, 41, 1, 22, 5, 31, 3, 2, 21, 26, 42, 43, 44, 45, 46, 47, 48, 49, 50, 51, 52, 53, 54, 55, 56, 57, 58, 59, 60, 61, 62, 63, 64, 65, 66, 67, 68, 69, 4, 70, 71, 33, 72, 73, 74, 75, 76, 77, 78, 79, 80, 81, 82, 83, 84, 85, 86, 87, 88, 89, 90, 91, 92, 93, 94, 95, 96, 97, 98, 99, 100, 101, 102, 103, 104, 105, 106, 107, 108, 20, 109, 110, 111, 112, 113, 114, 115, 116, 117, 118, 119, 120, 126, 127, 128, 129, 130, 131, 132, 133, 134, 135, 136, 137, 138, 139, 140, 141, 142, 143, 144, 145, 146, 147, 148, 149, 150, 151, 152, 153, 154, 155, 156, 157, 158, 159, 160, 161, 162, 163, 164, 165, 166, 167, 168, 169, 170, 171, 172, 173, 174, 175, 176, 177, 178, 179, 180, 181, 182, 183, 184, 185, 186, 187, 188, 189, 190, 191, 192, 193, 194, 195, 196, 197, 198, 199, 200, 201, 202, 203, 204, 205, 206, 207, 208, 209, 210] (by decide +kernel) (by decide +kernel)
set_option maxRecDepth 20000 in
theorem gX9_on_X9_goMinutes : GoodIn wsX9_on (wsV RX9 391 RX9 yX9_goMinutes wsX9_goMinutes) := goodIn_app (goodIn_of _ (by decide +kernel)) ggX9_on_X9_goMinutes
set_option maxRecDepth 20000 in
theorem ggX9_on_X9_putBack : GoodIn wsX9_on wsX9_putBack := goodIn_r _ [124, 20, 125, 21, 23, 22, 24, 2, 25, 3, 27, 26, 4, 28, 5, 29, 31, 30, 33, 32, 126, 127, 128, 129, 130, 131, 132, 133, 134, 135, 136, 137, 138, 139, 140, 141, 142, 143, 144, 145, 146, 147, 148, 149, 150, 151, 152, 153, 154, 155, 156, 157, 158, 159, 160, 161, 162, 163, 164, 165, 166, 167, 168, 169, 170, 171, 172, 173, 174, 175, 176, 177, 178, 179, 180, 181, 182, 183, 184, 185, 186, 187, 188, 189, 190, 191, 192, 193, 194, 195, 196, 197, 198, 199, 200, 201, 202, 203, 204, 205, 206, 207, 208, 209, 210] (by decide +kernel) (by decide +kernel)
set_option maxRecDepth 20000 in
theorem gX9_on_X9_putBack : GoodIn wsX9_on (wsV RX9 398 RX9 yX9_putBack wsX9_putBack) := goodIn_app (goodIn_of _ (by decide +kernel)) ggX9_on_X9_putBack
theorem dX9_on_0 : decode cX9_on 0 = .ok (.aload_n 0, 1) := by decide +kernel
theorem dX9_on_1 : decode cX9_on 1 = .ok (.iload_n 2, 1) := by decide +kernel
theorem dX9_on_2 : decode cX9_on 2 = .ok (.iconst 0, 1) := by decide +kernel
theorem dX9_on_3 : decode cX9_on 3 = .ok (.iconst 1, 1) := by decide +kernel
theorem dX9_on_4 : decode cX9_on 4 = .ok (.invokevirtual 274, 3) := by decide +kernel
theorem dX9_on_7 : decode cX9_on 7 = .ok (.ifCond .ne 39, 3) := by decide +kernel
theorem dX9_on_10 : decode cX9_on 10 = .ok (.aload_n 0, 1) := by decide +kernel
theorem dX9_on_11 : decode cX9_on 11 = .ok (.iload_n 2, 1) := by decide +kernel
theorem dX9_on_12 : decode cX9_on 12 = .ok (.bipush 10, 2) := by decide +kernel
theorem dX9_on_14 : decode cX9_on 14 = .ok (.bipush 9, 2) := by decide +kernel
theorem dX9_on_16 : decode cX9_on 16 = .ok (.aload_n 0, 1) := by decide +kernel
theorem dX9_on_17 : decode cX9_on 17 = .ok (.getfield 7, 3) := by decide +kernel
theorem dX9_on_20 : decode cX9_on 20 = .ok (.iadd, 1) := by decide +kernel
theorem dX9_on_21 : decode cX9_on 21 = .ok (.invokevirtual 274, 3) := by decide +kernel
theorem dX9_on_24 : decode cX9_on 24 = .ok (.ifCond .ne 22, 3) := by decide +kernel
theorem dX9_on_27 : decode cX9_on 27 = .ok (.aload_n 0, 1) := by decide +kernel
theorem dX9_on_28 : decode cX9_on 28 = .ok (.iload_n 2, 1) := by decide +kernel
theorem dX9_on_29 : decode cX9_on 29 = .ok (.bipush 20, 2) := by decide +kernel
theorem dX9_on_31 : decode cX9_on 31 = .ok (.bipush 19, 2) := by decide +kernel
theorem dX9_on_33 : decode cX9_on 33 = .ok (.aload_n 0, 1) := by decide +kernel
theorem dX9_on_34 : decode cX9_on 34 = .ok (.getfield 7, 3) := by decide +kernel
theorem dX9_on_37 : decode cX9_on 37 = .ok (.iadd, 1) := by decide +kernel
theorem dX9_on_38 : decode cX9_on 38 = .ok (.invokevirtual 274, 3) := by decide +kernel
theorem dX9_on_41 : decode cX9_on 41 = .ok (.ifCond .ne 5, 3) := by decide +kernel
theorem dX9_on_44 : decode cX9_on 44 = .ok (.iconst (-1), 1) := by decide +kernel
theorem dX9_on_45 : decode cX9_on 45 = .ok (.ireturn, 1) := by decide +kernel
theorem dX9_on_46 : decode cX9_on 46 = .ok (.aload_n 0, 1) := by decide +kernel
theorem dX9_on_47 : decode cX9_on 47 = .ok (.iload_n 1, 1) := by decide +kernel
theorem dX9_on_48 : decode cX9_on 48 = .ok (.invokevirtual 388, 3) := by decide +kernel
theorem dX9_on_51 : decode cX9_on 51 = .ok (.ifCond .ne 6, 3) := by decide +kernel
theorem dX9_on_54 : decode cX9_on 54 = .ok (.bipush (-2), 2) := by decide +kernel
theorem dX9_on_56 : decode cX9_on 56 = .ok (.ireturn, 1) := by decide +kernel
theorem dX9_on_57 : decode cX9_on 57 = .ok (.aload_n 0, 1) := by decide +kernel
theorem dX9_on_58 : decode cX9_on 58 = .ok (.invokevirtual 395, 3) := by decide +kernel
theorem dX9_on_61 : decode cX9_on 61 = .ok (.aload_n 0, 1) := by decide +kernel
theorem dX9_on_62 : decode cX9_on 62 = .ok (.iload_n 1, 1) := by decide +kernel
theorem dX9_on_63 : decode cX9_on 63 = .ok (.invokevirtual 391, 3) := by decide +kernel
theorem dX9_on_66 : decode cX9_on 66 = .ok (.iload_n 2, 1) := by decide +kernel
theorem dX9_on_67 : decode cX9_on 67 = .ok (.ifCond .ne 10, 3) := by decide +kernel
theorem dX9_on_70 : decode cX9_on 70 = .ok (.aload_n 0, 1) := by decide +kernel
theorem dX9_on_71 : decode cX9_on 71 = .ok (.getfield 16, 3) := by decide +kernel
theorem dX9_on_74 : decode cX9_on 74 = .ok (.goto 42, 3) := by decide +kernel
theorem dX9_on_77 : decode cX9_on 77 = .ok (.iload_n 2, 1) := by decide +kernel
theorem dX9_on_78 : decode cX9_on 78 = .ok (.iconst 1, 1) := by decide +kernel
theorem dX9_on_79 : decode cX9_on 79 = .ok (.if_icmp .ne 10, 3) := by decide +kernel
theorem dX9_on_82 : decode cX9_on 82 = .ok (.aload_n 0, 1) := by decide +kernel
theorem dX9_on_83 : decode cX9_on 83 = .ok (.getfield 19, 3) := by decide +kernel
theorem dX9_on_86 : decode cX9_on 86 = .ok (.goto 30, 3) := by decide +kernel
theorem dX9_on_89 : decode cX9_on 89 = .ok (.iload_n 2, 1) := by decide +kernel
theorem dX9_on_90 : decode cX9_on 90 = .ok (.bipush 20, 2) := by decide +kernel
theorem dX9_on_92 : decode cX9_on 92 = .ok (.if_icmp .ge 15, 3) := by decide +kernel
theorem dX9_on_95 : decode cX9_on 95 = .ok (.aload_n 0, 1) := by decide +kernel
theorem dX9_on_96 : decode cX9_on 96 = .ok (.getfield 32, 3) := by decide +kernel
theorem dX9_on_99 : decode cX9_on 99 = .ok (.iload_n 2, 1) := by decide +kernel
theorem dX9_on_100 : decode cX9_on 100 = .ok (.bipush 10, 2) := by decide +kernel
theorem dX9_on_102 : decode cX9_on 102 = .ok (.isub, 1) := by decide +kernel
theorem dX9_on_103 : decode cX9_on 103 = .ok (.iaload, 1) := by decide +kernel
theorem dX9_on_104 : decode cX9_on 104 = .ok (.goto 12, 3) := by decide +kernel
theorem dX9_on_107 : decode cX9_on 107 = .ok (.aload_n 0, 1) := by decide +kernel
theorem dX9_on_108 : decode cX9_on 108 = .ok (.getfield 35, 3) := by decide +kernel
theorem dX9_on_111 : decode cX9_on 111 = .ok (.iload_n 2, 1) := by decide +kernel
theorem dX9_on_112 : decode cX9_on 112 = .ok (.bipush 20, 2) := by decide +kernel
theorem dX9_on_114 : decode cX9_on 114 = .ok (.isub, 1) := by decide +kernel
theorem dX9_on_115 : decode cX9_on 115 = .ok (.iaload, 1) := by decide +kernel
theorem dX9_on_116 : decode cX9_on 116 = .ok (.istore_n 3, 1) := by decide +kernel
theorem dX9_on_117 : decode cX9_on 117 = .ok (.aload_n 0, 1) := by decide +kernel
theorem dX9_on_118 : decode cX9_on 118 = .ok (.invokevirtual 398, 3) := by decide +kernel
theorem dX9_on_121 : decode cX9_on 121 = .ok (.iload_n 3, 1) := by decide +kernel
theorem dX9_on_122 : decode cX9_on 122 = .ok (.ireturn, 1) := by decide +kernel
set_option maxRecDepth 20000 in
theorem ggX9_whoIfRung_X9_save : GoodIn wsX9_whoIfRung wsX9_save := goodIn_r _ [6, 7, 8, 9, 10, 11, 1, 12, 13, 14, 15, 16, 17, 18, 19, 20, 21, 22, 23, 24, 94, 95, 96, 97, 98, 99, 100, 101, 102, 103, 104, 105, 106, 107, 108, 109, 110, 111, 112, 113, 114, 115, 116, 117, 118, 119, 120, 121, 122, 123, 124, 125, 126, 127, 128, 129, 130, 131, 132, 133, 134, 135, 136, 137, 138, 139, 140, 141, 142, 143, 144, 145, 146, 147, 148, 149, 150, 151, 152, 153, 154, 155, 156, 157, 158, 159, 160, 161, 162, 163, 164, 165, 166, 167, 168, 169, 170, 171, 172, 173, 174, 175, 176, 177, 178] (by decide +kernel) (by decide +kernel)
set_option maxRecDepth 20000 in
theorem gX9_whoIfRung_X9_save : GoodIn wsX9_whoIfRung (wsV RX9 395 RX9 yX9_save wsX9_save) := goodIn_app (goodIn_of _ (by decide +kernel)) ggX9_whoIfRung_X9_save
set_option maxRecDepth 20000 in
theorem ggX9_whoIfRung_X9_giveGoals : GoodIn wsX9_whoIfRung wsX9_giveGoals := goodIn_r _ [28, 20, 29, 30, 31, 5, 32, 1, 33, 34, 35, 36, 37, 38, 39, 40, 41, 42, 43, 44, 45, 46, 47, 48, 49, 10, 22, 50, 51, 52, 53, 18, 54, 55, 24, 15, 56, 57, 58, 59, 60, 61, 62, 63, 64, 65, 66, 67, 68, 69, 70, 71, 72, 73, 74, 75, 76, 77, 78, 79, 80, 81, 82, 83, 84, 85, 86, 87, 88, 94, 95, 96, 97, 98, 99, 100, 101, 102, 103, 104, 105, 106, 107, 108, 109, 110, 111, 112, 113, 114, 115, 116, 117, 118, 119, 120, 121, 122, 123, 124, 125, 126, 127, 128, 129, 130, 131, 132, 133, 134, 135, 136, 137, 138, 139, 140, 141, 142, 143, 144, 145, 146, 147, 148, 149, 150, 151, 152, 153, 154, 155, 156, 157, 158, 159, 160, 161, 162, 163, 164, 165, 166, 167, 168, 169, 170, 171, 172, 173, 174, 175, 176, 177, 178] (by decide +kernel) (by decide +kernel)
set_option maxRecDepth 20000 in
theorem gX9_whoIfRung_X9_giveGoals : GoodIn wsX9_whoIfRung (wsV RX9 376 RX9 yX9_giveGoals wsX9_giveGoals) := goodIn_app (goodIn_of _ (by decide +kernel)) ggX9_whoIfRung_X9_giveGoals
set_option maxRecDepth 20000 in
theorem ggX9_whoIfRung_X9_whoGoes : GoodIn wsX9_whoIfRung wsX9_whoGoes := goodIn_r _ [40, 41, 20, 94, 95, 96, 97, 98, 99, 100, 101, 102, 103, 104, 105, 106, 107, 108, 109, 110, 111, 112, 113, 114, 115, 116, 117, 118, 119, 120, 121, 122, 123, 124, 125, 126, 127, 128, 129, 130, 131, 132, 133, 134, 135, 136, 137, 138, 139, 140, 141, 142, 143, 144, 145, 146, 147, 148, 149, 150, 151, 152, 153, 154, 155, 156, 157, 158, 159, 160, 161, 162, 163, 164, 165, 166, 167, 168, 169, 170, 171, 172, 173, 174, 175, 176, 177, 178] (by decide +kernel) (by decide +kernel)
set_option maxRecDepth 20000 in
theorem gX9_whoIfRung_X9_whoGoes : GoodIn wsX9_whoIfRung (wsV RX9 361 RX9 yX9_whoGoes wsX9_whoGoes) := goodIn_app (goodIn_of _ (by decide +kernel)) ggX9_whoIfRung_X9_whoGoes
set_option maxRecDepth 20000 in
theorem ggX9_whoIfRung_X9_putBack : GoodIn wsX9_whoIfRung wsX9_putBack := goodIn_r _ [92, 8, 93, 9, 11, 10, 12, 1, 14, 13, 16, 15, 18, 17, 20, 19, 22, 21, 24, 23, 94, 95, 96, 97, 98, 99, 100, 101, 102, 103, 104, 105, 106, 107, 108, 109, 110, 111, 112, 113, 114, 115, 116, 117, 118, 119, 120, 121, 122, 123, 124, 125, 126, 127, 128, 129, 130, 131, 132, 133, 134, 135, 136, 137, 138, 139, 140, 141, 142, 143, 144, 145, 146, 147, 148, 149, 150, 151, 152, 153, 154, 155, 156, 157, 158, 159, 160, 161, 162, 163, 164, 165, 166, 167, 168, 169, 170, 171, 172, 173, 174, 175, 176, 177, 178] (by decide +kernel) (by decide +kernel)
set_option maxRecDepth 20000 in
theorem gX9_whoIfRung_X9_putBack : GoodIn wsX9_whoIfRung (wsV RX9 398 RX9 yX9_putBack wsX9_putBack) := goodIn_app (goodIn_of _ (by decide +kernel)) ggX9_whoIfRung_X9_putBack
theorem dX9_whoIfRung_0 : decode cX9_whoIfRung 0 = .ok (.aload_n 0, 1) := by decide +kernel
theorem dX9_whoIfRung_1 : decode cX9_whoIfRung 1 = .ok (.invokevirtual 395, 3) := by decide +kernel
theorem dX9_whoIfRung_4 : decode cX9_whoIfRung 4 = .ok (.aload_n 0, 1) := by decide +kernel
theorem dX9_whoIfRung_5 : decode cX9_whoIfRung 5 = .ok (.dup, 1) := by decide +kernel
theorem dX9_whoIfRung_6 : decode cX9_whoIfRung 6 = .ok (.getfield 16, 3) := by decide +kernel
theorem dX9_whoIfRung_9 : decode cX9_whoIfRung 9 = .ok (.iconst 1, 1) := by decide +kernel
theorem dX9_whoIfRung_10 : decode cX9_whoIfRung 10 = .ok (.iload_n 1, 1) := by decide +kernel
theorem dX9_whoIfRung_11 : decode cX9_whoIfRung 11 = .ok (.ishl, 1) := by decide +kernel
theorem dX9_whoIfRung_12 : decode cX9_whoIfRung 12 = .ok (.ior, 1) := by decide +kernel
theorem dX9_whoIfRung_13 : decode cX9_whoIfRung 13 = .ok (.putfield 16, 3) := by decide +kernel
theorem dX9_whoIfRung_16 : decode cX9_whoIfRung 16 = .ok (.aload_n 0, 1) := by decide +kernel
theorem dX9_whoIfRung_17 : decode cX9_whoIfRung 17 = .ok (.invokevirtual 376, 3) := by decide +kernel
theorem dX9_whoIfRung_20 : decode cX9_whoIfRung 20 = .ok (.aload_n 0, 1) := by decide +kernel
theorem dX9_whoIfRung_21 : decode cX9_whoIfRung 21 = .ok (.iload_n 1, 1) := by decide +kernel
theorem dX9_whoIfRung_22 : decode cX9_whoIfRung 22 = .ok (.invokevirtual 361, 3) := by decide +kernel
theorem dX9_whoIfRung_25 : decode cX9_whoIfRung 25 = .ok (.istore_n 2, 1) := by decide +kernel
theorem dX9_whoIfRung_26 : decode cX9_whoIfRung 26 = .ok (.aload_n 0, 1) := by decide +kernel
theorem dX9_whoIfRung_27 : decode cX9_whoIfRung 27 = .ok (.invokevirtual 398, 3) := by decide +kernel
theorem dX9_whoIfRung_30 : decode cX9_whoIfRung 30 = .ok (.iload_n 2, 1) := by decide +kernel
theorem dX9_whoIfRung_31 : decode cX9_whoIfRung 31 = .ok (.ireturn, 1) := by decide +kernel
set_option maxRecDepth 20000 in
theorem ggX9_soonIfRung_X9_save : GoodIn wsX9_soonIfRung wsX9_save := goodIn_r _ [6, 7, 8, 9, 10, 11, 1, 12, 13, 14, 15, 16, 17, 18, 19, 20, 21, 22, 23, 24, 114, 115, 116, 117, 118, 119, 120, 121, 122, 123, 124, 125, 126, 127, 128, 129, 130, 131, 132, 133, 134, 135, 136, 137, 138, 139, 140, 141, 142, 143, 144, 145, 146, 147, 148, 149, 150, 151, 152, 153, 154, 155, 156, 157, 158, 159, 160, 161, 162, 163, 164, 165, 166, 167, 168, 169, 170, 171, 172, 173, 174, 175, 176, 177, 178, 179, 180, 181, 182, 183, 184, 185, 186, 187, 188, 189, 190, 191, 192, 193, 194, 195, 196, 197, 198] (by decide +kernel) (by decide +kernel)
set_option maxRecDepth 20000 in
theorem gX9_soonIfRung_X9_save : GoodIn wsX9_soonIfRung (wsV RX9 395 RX9 yX9_save wsX9_save) := goodIn_app (goodIn_of _ (by decide +kernel)) ggX9_soonIfRung_X9_save
set_option maxRecDepth 20000 in
theorem ggX9_soonIfRung_X9_has : GoodIn wsX9_soonIfRung wsX9_has := goodIn_r _ [28] (by decide +kernel) (by decide +kernel)
set_option maxRecDepth 20000 in
theorem gX9_soonIfRung_X9_has : GoodIn wsX9_soonIfRung (wsV RX9 270 RX9 yX9_has wsX9_has) := goodIn_app (goodIn_of _ (by decide +kernel)) ggX9_soonIfRung_X9_has
set_option maxRecDepth 20000 in
theorem ggX9_soonIfRung_X9_goMinute : GoodIn wsX9_soonIfRung wsX9_goMinute := goodIn_r _ [32, 33, 10, 20, 22, 13, 1, 9, 15, 34, 35, 36, 5, 37, 38, 39, 40, 41, 25, 26, 27, 28, 42, 43, 44, 45, 46, 47, 48, 49, 50, 51, 52, 53, 54, 55, 56, 57, 18, 58, 59, 24, 60, 61, 62, 63, 64, 65, 66, 67, 68, 69, 70, 71, 72, 73, 74, 75, 76, 77, 78, 79, 80, 81, 82, 83, 84, 85, 86, 87, 88, 89, 90, 91, 92, 93, 94, 95, 96, 8, 97, 98, 99, 100, 101, 102, 103, 104, 105, 106, 107, 108, 114, 115, 116, 117, 118, 119, 120, 121, 122, 123, 124, 125, 126, 127, 128, 129, 130, 131, 132, 133, 134, 135, 136, 137, 138, 139, 140, 141, 142, 143, 144, 145, 146, 147, 148, 149, 150, 151, 152, 153, 154, 155, 156, 157, 158, 159, 160, 161, 162, 163, 164, 165, 166, 167, 168, 169, 170, 171, 172, 173, 174, 175, 176, 177, 178, 179, 180, 181, 182, 183, 184, 185, 186, 187, 188, 189, 190, 191, 192, 193, 194, 195, 196, 197, 198] (by decide +kernel) (by decide +kernel)
set_option maxRecDepth 20000 in
theorem gX9_soonIfRung_X9_goMinute : GoodIn wsX9_soonIfRung (wsV RX9 385 RX9 yX9_goMinute wsX9_goMinute) := goodIn_app (goodIn_of _ (by decide +kernel)) ggX9_soonIfRung_X9_goMinute
set_option maxRecDepth 20000 in
theorem ggX9_soonIfRung_X9_putBack : GoodIn wsX9_soonIfRung wsX9_putBack := goodIn_r _ [112, 8, 113, 9, 11, 10, 12, 1, 14, 13, 16, 15, 18, 17, 20, 19, 22, 21, 24, 23, 114, 115, 116, 117, 118, 119, 120, 121, 122, 123, 124, 125, 126, 127, 128, 129, 130, 131, 132, 133, 134, 135, 136, 137, 138, 139, 140, 141, 142, 143, 144, 145, 146, 147, 148, 149, 150, 151, 152, 153, 154, 155, 156, 157, 158, 159, 160, 161, 162, 163, 164, 165, 166, 167, 168, 169, 170, 171, 172, 173, 174, 175, 176, 177, 178, 179, 180, 181, 182, 183, 184, 185, 186, 187, 188, 189, 190, 191, 192, 193, 194, 195, 196, 197, 198] (by decide +kernel) (by decide +kernel)
set_option maxRecDepth 20000 in
theorem gX9_soonIfRung_X9_putBack : GoodIn wsX9_soonIfRung (wsV RX9 398 RX9 yX9_putBack wsX9_putBack) := goodIn_app (goodIn_of _ (by decide +kernel)) ggX9_soonIfRung_X9_putBack
theorem dX9_soonIfRung_0 : decode cX9_soonIfRung 0 = .ok (.aload_n 0, 1) := by decide +kernel
theorem dX9_soonIfRung_1 : decode cX9_soonIfRung 1 = .ok (.invokevirtual 395, 3) := by decide +kernel
theorem dX9_soonIfRung_4 : decode cX9_soonIfRung 4 = .ok (.aload_n 0, 1) := by decide +kernel
theorem dX9_soonIfRung_5 : decode cX9_soonIfRung 5 = .ok (.dup, 1) := by decide +kernel
theorem dX9_soonIfRung_6 : decode cX9_soonIfRung 6 = .ok (.getfield 16, 3) := by decide +kernel
theorem dX9_soonIfRung_9 : decode cX9_soonIfRung 9 = .ok (.iconst 1, 1) := by decide +kernel
theorem dX9_soonIfRung_10 : decode cX9_soonIfRung 10 = .ok (.iload_n 1, 1) := by decide +kernel
theorem dX9_soonIfRung_11 : decode cX9_soonIfRung 11 = .ok (.ishl, 1) := by decide +kernel
theorem dX9_soonIfRung_12 : decode cX9_soonIfRung 12 = .ok (.ior, 1) := by decide +kernel
theorem dX9_soonIfRung_13 : decode cX9_soonIfRung 13 = .ok (.putfield 16, 3) := by decide +kernel
theorem dX9_soonIfRung_16 : decode cX9_soonIfRung 16 = .ok (.iconst 0, 1) := by decide +kernel
theorem dX9_soonIfRung_17 : decode cX9_soonIfRung 17 = .ok (.istore_n 2, 1) := by decide +kernel
theorem dX9_soonIfRung_18 : decode cX9_soonIfRung 18 = .ok (.iload_n 2, 1) := by decide +kernel
theorem dX9_soonIfRung_19 : decode cX9_soonIfRung 19 = .ok (.bipush 61, 2) := by decide +kernel
theorem dX9_soonIfRung_21 : decode cX9_soonIfRung 21 = .ok (.if_icmp .ge 25, 3) := by decide +kernel
theorem dX9_soonIfRung_24 : decode cX9_soonIfRung 24 = .ok (.aload_n 0, 1) := by decide +kernel
theorem dX9_soonIfRung_25 : decode cX9_soonIfRung 25 = .ok (.aload_n 0, 1) := by decide +kernel
theorem dX9_soonIfRung_26 : decode cX9_soonIfRung 26 = .ok (.getfield 16, 3) := by decide +kernel
theorem dX9_soonIfRung_29 : decode cX9_soonIfRung 29 = .ok (.iload_n 1, 1) := by decide +kernel
theorem dX9_soonIfRung_30 : decode cX9_soonIfRung 30 = .ok (.invokevirtual 270, 3) := by decide +kernel
theorem dX9_soonIfRung_33 : decode cX9_soonIfRung 33 = .ok (.ifCond .eq 13, 3) := by decide +kernel
theorem dX9_soonIfRung_36 : decode cX9_soonIfRung 36 = .ok (.aload_n 0, 1) := by decide +kernel
theorem dX9_soonIfRung_37 : decode cX9_soonIfRung 37 = .ok (.invokevirtual 385, 3) := by decide +kernel
theorem dX9_soonIfRung_40 : decode cX9_soonIfRung 40 = .ok (.iinc 2 1, 3) := by decide +kernel
theorem dX9_soonIfRung_43 : decode cX9_soonIfRung 43 = .ok (.goto (-25), 3) := by decide +kernel
theorem dX9_soonIfRung_46 : decode cX9_soonIfRung 46 = .ok (.aload_n 0, 1) := by decide +kernel
theorem dX9_soonIfRung_47 : decode cX9_soonIfRung 47 = .ok (.invokevirtual 398, 3) := by decide +kernel
theorem dX9_soonIfRung_50 : decode cX9_soonIfRung 50 = .ok (.iload_n 2, 1) := by decide +kernel
theorem dX9_soonIfRung_51 : decode cX9_soonIfRung 51 = .ok (.bipush 61, 2) := by decide +kernel
theorem dX9_soonIfRung_53 : decode cX9_soonIfRung 53 = .ok (.if_icmp .ge 7, 3) := by decide +kernel
theorem dX9_soonIfRung_56 : decode cX9_soonIfRung 56 = .ok (.iload_n 2, 1) := by decide +kernel
theorem dX9_soonIfRung_57 : decode cX9_soonIfRung 57 = .ok (.goto 5, 3) := by decide +kernel
theorem dX9_soonIfRung_60 : decode cX9_soonIfRung 60 = .ok (.bipush (-5), 2) := by decide +kernel
theorem dX9_soonIfRung_62 : decode cX9_soonIfRung 62 = .ok (.ireturn, 1) := by decide +kernel
set_option maxRecDepth 20000 in
theorem ggX9_bell_X9_isFloor : GoodIn wsX9_bell wsX9_isFloor := goodIn_r _ [6, 7, 8, 9, 5, 10] (by decide +kernel) (by decide +kernel)
set_option maxRecDepth 20000 in
theorem gX9_bell_X9_isFloor : GoodIn wsX9_bell (wsV RX9 278 RX9 yX9_isFloor wsX9_isFloor) := goodIn_app (goodIn_of _ (by decide +kernel)) ggX9_bell_X9_isFloor
set_option maxRecDepth 20000 in
theorem ggX9_bell_X9_in : GoodIn wsX9_bell wsX9_in := goodIn_r _ [10] (by decide +kernel) (by decide +kernel)
set_option maxRecDepth 20000 in
theorem gX9_bell_X9_in : GoodIn wsX9_bell (wsV RX9 274 RX9 yX9_in wsX9_in) := goodIn_app (goodIn_of _ (by decide +kernel)) ggX9_bell_X9_in
set_option maxRecDepth 20000 in
theorem ggX9_bell_X9_soonIfRung : GoodIn wsX9_bell wsX9_soonIfRung := goodIn_r _ [14, 15, 16, 17, 18, 5, 19, 20, 21, 22, 23, 24, 25, 26, 27, 28, 29, 30, 31, 32, 33, 34, 35, 36, 37, 38, 39, 40, 41, 42, 43, 44, 45, 46, 47, 48, 49, 50, 51, 52, 53, 54, 55, 56, 57, 58, 59, 60, 61, 62, 63, 64, 65, 66, 67, 68, 69, 70, 71, 72, 73, 74, 75, 76, 77, 78, 79, 80, 81, 82, 83, 84, 85, 86, 87, 88, 89, 90, 91, 92, 93, 94, 95, 96, 97, 98, 99, 100, 101, 102, 103, 104, 105, 106, 107, 108, 109, 110, 111, 112, 113, 114, 115, 116, 117, 118, 119, 120, 121, 122, 123, 124, 125, 126, 131, 132, 133, 134, 135, 136, 137, 138, 139, 140, 141, 142, 143, 144, 145, 146, 147, 148, 149, 150, 151, 152, 153, 154, 155, 156, 157, 158, 159, 160, 161, 162, 163, 164, 165, 166, 167, 168, 169, 170, 171, 172, 173, 174, 175, 176, 177, 178, 179, 180, 181, 182, 183, 184, 185, 186, 187, 188, 189, 190, 191, 192, 193, 194, 195, 196, 197, 198, 199, 200, 201, 202, 203, 204, 205, 206, 207, 208, 209, 210, 211, 212, 213, 214, 215] (by decide +kernel) (by decide +kernel)
set_option maxRecDepth 20000 in
theorem gX9_bell_X9_soonIfRung : GoodIn wsX9_bell (wsV RX9 416 RX9 yX9_soonIfRung wsX9_soonIfRung) := goodIn_app (goodIn_of _ (by decide +kernel)) ggX9_bell_X9_soonIfRung
set_option maxRecDepth 20000 in
theorem ggX9_bell_X9_whoIfRung : GoodIn wsX9_bell wsX9_whoIfRung := goodIn_r _ [130, 15, 16, 17, 18, 5, 19, 20, 21, 22, 23, 24, 25, 26, 27, 28, 29, 30, 31, 32, 33, 34, 35, 36, 37, 47, 48, 49, 50, 51, 52, 53, 54, 38, 39, 40, 41, 55, 56, 57, 58, 46, 59, 60, 61, 62, 63, 64, 65, 66, 67, 68, 69, 70, 71, 72, 73, 74, 75, 76, 77, 78, 79, 80, 81, 82, 83, 84, 85, 86, 87, 88, 89, 90, 91, 92, 93, 94, 95, 96, 97, 98, 99, 100, 101, 102, 103, 104, 105, 122, 123, 124, 125, 126, 131, 132, 133, 134, 135, 136, 137, 138, 139, 140, 141, 142, 143, 144, 145, 146, 147, 148, 149, 150, 151, 152, 153, 154, 155, 156, 157, 158, 159, 160, 161, 162, 163, 164, 165, 166, 167, 168, 169, 170, 171, 172, 173, 174, 175, 176, 177, 178, 179, 180, 181, 182, 183, 184, 185, 186, 187, 188, 189, 190, 191, 192, 193, 194, 195, 196, 197, 198, 199, 200, 201, 202, 203, 204, 205, 206, 207, 208, 209, 210, 211, 212, 213, 214, 215] (by decide +kernel) (by decide +kernel)
set_option maxRecDepth 20000 in
theorem gX9_bell_X9_whoIfRung : GoodIn wsX9_bell (wsV RX9 419 RX9 yX9_whoIfRung wsX9_whoIfRung) := goodIn_app (goodIn_of _ (by decide +kernel)) ggX9_bell_X9_whoIfRung
theorem dX9_bell_0 : decode cX9_bell 0 = .ok (.aload_n 0, 1) := by decide +kernel
theorem dX9_bell_1 : decode cX9_bell 1 = .ok (.iload_n 1, 1) := by decide +kernel
theorem dX9_bell_2 : decode cX9_bell 2 = .ok (.invokevirtual 278, 3) := by decide +kernel
theorem dX9_bell_5 : decode cX9_bell 5 = .ok (.ifCond .eq 13, 3) := by decide +kernel
theorem dX9_bell_8 : decode cX9_bell 8 = .ok (.aload_n 0, 1) := by decide +kernel
theorem dX9_bell_9 : decode cX9_bell 9 = .ok (.iload_n 2, 1) := by decide +kernel
theorem dX9_bell_10 : decode cX9_bell 10 = .ok (.iconst 0, 1) := by decide +kernel
theorem dX9_bell_11 : decode cX9_bell 11 = .ok (.iconst 1, 1) := by decide +kernel
theorem dX9_bell_12 : decode cX9_bell 12 = .ok (.invokevirtual 274, 3) := by decide +kernel
theorem dX9_bell_15 : decode cX9_bell 15 = .ok (.ifCond .ne 5, 3) := by decide +kernel
theorem dX9_bell_18 : decode cX9_bell 18 = .ok (.iconst (-1), 1) := by decide +kernel
theorem dX9_bell_19 : decode cX9_bell 19 = .ok (.ireturn, 1) := by decide +kernel
theorem dX9_bell_20 : decode cX9_bell 20 = .ok (.iload_n 2, 1) := by decide +kernel
theorem dX9_bell_21 : decode cX9_bell 21 = .ok (.ifCond .ne 16, 3) := by decide +kernel
theorem dX9_bell_24 : decode cX9_bell 24 = .ok (.aload_n 0, 1) := by decide +kernel
theorem dX9_bell_25 : decode cX9_bell 25 = .ok (.aload_n 0, 1) := by decide +kernel
theorem dX9_bell_26 : decode cX9_bell 26 = .ok (.getfield 47, 3) := by decide +kernel
theorem dX9_bell_29 : decode cX9_bell 29 = .ok (.iload_n 1, 1) := by decide +kernel
theorem dX9_bell_30 : decode cX9_bell 30 = .ok (.iaload, 1) := by decide +kernel
theorem dX9_bell_31 : decode cX9_bell 31 = .ok (.invokevirtual 416, 3) := by decide +kernel
theorem dX9_bell_34 : decode cX9_bell 34 = .ok (.goto 13, 3) := by decide +kernel
theorem dX9_bell_37 : decode cX9_bell 37 = .ok (.aload_n 0, 1) := by decide +kernel
theorem dX9_bell_38 : decode cX9_bell 38 = .ok (.aload_n 0, 1) := by decide +kernel
theorem dX9_bell_39 : decode cX9_bell 39 = .ok (.getfield 47, 3) := by decide +kernel
theorem dX9_bell_42 : decode cX9_bell 42 = .ok (.iload_n 1, 1) := by decide +kernel
theorem dX9_bell_43 : decode cX9_bell 43 = .ok (.iaload, 1) := by decide +kernel
theorem dX9_bell_44 : decode cX9_bell 44 = .ok (.invokevirtual 419, 3) := by decide +kernel
theorem dX9_bell_47 : decode cX9_bell 47 = .ok (.ireturn, 1) := by decide +kernel
set_option maxRecDepth 20000 in
theorem ggX9_layShared_X9_cost : GoodIn wsX9_layShared wsX9_cost := goodIn_r _ [9, 10, 11, 12, 13, 14, 15, 16, 17, 18, 8, 19, 20, 21, 22, 23, 24, 25, 26, 27, 28, 29, 30, 31, 32, 33, 34, 35, 36, 37, 38, 39, 40, 41, 42, 43, 44, 45, 46, 47, 72, 73, 74, 75, 76, 77, 78, 79, 80, 81, 82, 83, 84, 85, 86, 87, 88, 89, 90, 91, 92, 93, 94, 95, 96, 97, 98, 99, 100, 101, 102, 103, 104, 105, 106, 107, 108, 109, 110, 111, 112, 113, 114, 115, 116, 117, 118, 119, 120, 121, 122, 123, 124, 125, 126, 127, 128, 129, 130, 131, 132, 133, 134, 135, 136, 137, 138, 139, 140, 141, 142, 143, 144, 145, 146, 147, 148, 149, 150, 151, 152, 153, 154, 155, 156] (by decide +kernel) (by decide +kernel)
set_option maxRecDepth 20000 in
theorem gX9_layShared_X9_cost : GoodIn wsX9_layShared (wsV RX9 358 RX9 yX9_cost wsX9_cost) := goodIn_app (goodIn_of _ (by decide +kernel)) ggX9_layShared_X9_cost
set_option maxRecDepth 20000 in
theorem ggX9_layShared_X9_layFloor : GoodIn wsX9_layShared wsX9_layFloor := goodIn_r _ [51, 3, 4, 1, 2, 52, 53, 54, 8, 55, 56, 57, 58, 59, 60, 61, 62, 63, 64, 65, 66, 67, 68, 69, 70, 71, 72, 73, 74, 75, 76, 77, 78, 79, 80, 81, 82, 83, 84, 85, 86, 87, 88, 89, 90, 91, 92, 93, 94, 95, 96, 97, 98, 99, 100, 101, 102, 103, 104, 105, 106, 107, 108, 109, 110, 111, 112, 113, 114, 115, 116, 117, 118, 119, 120, 121, 122, 123, 124, 125, 126, 127, 128, 129, 130, 131, 132, 133, 134, 135, 136, 137, 138, 139, 140, 141, 142, 143, 144, 145, 146, 147, 148, 149, 150, 151, 152, 153, 154, 155, 156] (by decide +kernel) (by decide +kernel)
set_option maxRecDepth 20000 in
theorem gX9_layShared_X9_layFloor : GoodIn wsX9_layShared (wsV RX9 422 RX9 yX9_layFloor wsX9_layFloor) := goodIn_app (goodIn_of _ (by decide +kernel)) ggX9_layShared_X9_layFloor
theorem dX9_layShared_0 : decode cX9_layShared 0 = .ok (.iconst 0, 1) := by decide +kernel
theorem dX9_layShared_1 : decode cX9_layShared 1 = .ok (.istore_n 1, 1) := by decide +kernel
theorem dX9_layShared_2 : decode cX9_layShared 2 = .ok (.iload_n 1, 1) := by decide +kernel
theorem dX9_layShared_3 : decode cX9_layShared 3 = .ok (.bipush 10, 2) := by decide +kernel
theorem dX9_layShared_5 : decode cX9_layShared 5 = .ok (.if_icmp .ge 42, 3) := by decide +kernel
theorem dX9_layShared_8 : decode cX9_layShared 8 = .ok (.iconst 0, 1) := by decide +kernel
theorem dX9_layShared_9 : decode cX9_layShared 9 = .ok (.istore_n 2, 1) := by decide +kernel
theorem dX9_layShared_10 : decode cX9_layShared 10 = .ok (.iload_n 2, 1) := by decide +kernel
theorem dX9_layShared_11 : decode cX9_layShared 11 = .ok (.aload_n 0, 1) := by decide +kernel
theorem dX9_layShared_12 : decode cX9_layShared 12 = .ok (.getfield 7, 3) := by decide +kernel
theorem dX9_layShared_15 : decode cX9_layShared 15 = .ok (.if_icmp .ge 26, 3) := by decide +kernel
theorem dX9_layShared_18 : decode cX9_layShared 18 = .ok (.aload_n 0, 1) := by decide +kernel
theorem dX9_layShared_19 : decode cX9_layShared 19 = .ok (.getfield 142, 3) := by decide +kernel
theorem dX9_layShared_22 : decode cX9_layShared 22 = .ok (.bipush 6, 2) := by decide +kernel
theorem dX9_layShared_24 : decode cX9_layShared 24 = .ok (.iload_n 1, 1) := by decide +kernel
theorem dX9_layShared_25 : decode cX9_layShared 25 = .ok (.imul, 1) := by decide +kernel
theorem dX9_layShared_26 : decode cX9_layShared 26 = .ok (.iload_n 2, 1) := by decide +kernel
theorem dX9_layShared_27 : decode cX9_layShared 27 = .ok (.iadd, 1) := by decide +kernel
theorem dX9_layShared_28 : decode cX9_layShared 28 = .ok (.aload_n 0, 1) := by decide +kernel
theorem dX9_layShared_29 : decode cX9_layShared 29 = .ok (.iload_n 2, 1) := by decide +kernel
theorem dX9_layShared_30 : decode cX9_layShared 30 = .ok (.iload_n 1, 1) := by decide +kernel
theorem dX9_layShared_31 : decode cX9_layShared 31 = .ok (.invokevirtual 358, 3) := by decide +kernel
theorem dX9_layShared_34 : decode cX9_layShared 34 = .ok (.iastore, 1) := by decide +kernel
theorem dX9_layShared_35 : decode cX9_layShared 35 = .ok (.iinc 2 1, 3) := by decide +kernel
theorem dX9_layShared_38 : decode cX9_layShared 38 = .ok (.goto (-28), 3) := by decide +kernel
theorem dX9_layShared_41 : decode cX9_layShared 41 = .ok (.iinc 1 1, 3) := by decide +kernel
theorem dX9_layShared_44 : decode cX9_layShared 44 = .ok (.goto (-42), 3) := by decide +kernel
theorem dX9_layShared_47 : decode cX9_layShared 47 = .ok (.iconst 0, 1) := by decide +kernel
theorem dX9_layShared_48 : decode cX9_layShared 48 = .ok (.istore_n 1, 1) := by decide +kernel
theorem dX9_layShared_49 : decode cX9_layShared 49 = .ok (.iload_n 1, 1) := by decide +kernel
theorem dX9_layShared_50 : decode cX9_layShared 50 = .ok (.bipush 64, 2) := by decide +kernel
theorem dX9_layShared_52 : decode cX9_layShared 52 = .ok (.if_icmp .ge 31, 3) := by decide +kernel
theorem dX9_layShared_55 : decode cX9_layShared 55 = .ok (.aload_n 0, 1) := by decide +kernel
theorem dX9_layShared_56 : decode cX9_layShared 56 = .ok (.getfield 136, 3) := by decide +kernel
theorem dX9_layShared_59 : decode cX9_layShared 59 = .ok (.sipush 640, 3) := by decide +kernel
theorem dX9_layShared_62 : decode cX9_layShared 62 = .ok (.iload_n 1, 1) := by decide +kernel
