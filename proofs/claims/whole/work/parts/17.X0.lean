set_option maxRecDepth 20000 in
theorem ggX0_make_X4_clear : GoodIn wsX0_make wsX4_clear := goodIn_r _ [5, 6, 7, 8, 9, 10, 11, 12, 13, 14, 15, 16, 17, 151, 152, 153, 154, 155] (by decide +kernel) (by decide +kernel)
set_option maxRecDepth 20000 in
theorem gX0_make_X4_clear : GoodIn wsX0_make (wsV RX0 9 RX4 yX4_clear wsX4_clear) := goodIn_app (goodIn_of _ (by decide +kernel)) ggX0_make_X4_clear
set_option maxRecDepth 20000 in
theorem ggX0_make_X3_total : GoodIn wsX0_make wsX3_total := goodIn_r _ [21, 17, 154, 155] (by decide +kernel) (by decide +kernel)
set_option maxRecDepth 20000 in
theorem gX0_make_X3_total : GoodIn wsX0_make (wsV RX0 20 RX3 yX3_total wsX3_total) := goodIn_app (goodIn_of _ (by decide +kernel)) ggX0_make_X3_total
set_option maxRecDepth 20000 in
theorem ggX0_make_X4_addRow : GoodIn wsX0_make wsX4_addRow := goodIn_r _ [25, 6, 26, 27, 28, 4, 29, 30, 31, 32, 33, 34, 151, 152, 153] (by decide +kernel) (by decide +kernel)
set_option maxRecDepth 20000 in
theorem gX0_make_X4_addRow : GoodIn wsX0_make (wsV RX0 32 RX4 yX4_addRow wsX4_addRow) := goodIn_app (goodIn_of _ (by decide +kernel)) ggX0_make_X4_addRow
set_option maxRecDepth 20000 in
theorem ggX0_make_X0_finishRow : GoodIn wsX0_make wsX0_finishRow := goodIn_r _ [38, 39, 40, 41, 4, 42, 30, 31, 32, 33, 34, 6, 43, 44, 45, 46, 47, 48, 49, 50, 51, 52, 53, 54, 55, 56, 57, 37, 58, 59, 60, 61, 11, 62, 63, 64, 65, 66, 17, 67, 68, 69, 70, 71, 72, 27, 28, 29, 73, 74, 75, 76, 77, 78, 79, 80, 81, 82, 83, 84, 85, 86, 146, 147, 148, 149, 150, 151, 152, 153, 156, 154, 155, 141, 142, 143, 144, 145] (by decide +kernel) (by decide +kernel)
set_option maxRecDepth 20000 in
theorem gX0_make_X0_finishRow : GoodIn wsX0_make (va_wsS RX0 36 yX0_finishRow wsX0_finishRow) := goodIn_app (goodIn_of _ (by decide +kernel)) ggX0_make_X0_finishRow
set_option maxRecDepth 20000 in
theorem ggX0_make_X0_addRowAt : GoodIn wsX0_make wsX0_addRowAt := goodIn_r _ [89, 90, 64, 65, 11, 66, 17, 91, 92, 93, 94, 95, 96, 97, 98, 99, 100, 101, 102, 103, 104, 105, 106, 107, 37, 108, 43, 44, 45, 46, 47, 48, 49, 50, 51, 52, 53, 54, 55, 22, 23, 24, 4, 25, 6, 26, 27, 28, 29, 30, 31, 32, 33, 34, 109, 110, 111, 39, 40, 41, 42, 73, 74, 75, 76, 112, 68, 69, 70, 71, 113, 114, 115, 80, 116, 82, 117, 118, 119, 120, 121, 122, 123, 124, 125, 83, 84, 85, 86, 126, 127, 128, 129, 130, 131, 132, 133, 63, 134, 135, 136, 137, 67, 138, 139, 140, 72, 35, 36, 38, 56, 57, 58, 59, 60, 61, 62, 77, 78, 79, 81, 141, 142, 143, 144, 145, 154, 155, 146, 147, 148, 149, 150, 156, 151, 152, 153] (by decide +kernel) (by decide +kernel)
set_option maxRecDepth 20000 in
theorem gX0_make_X0_addRowAt : GoodIn wsX0_make (va_wsS RX0 42 yX0_addRowAt wsX0_addRowAt) := goodIn_app (goodIn_of _ (by decide +kernel)) ggX0_make_X0_addRowAt
theorem dX0_make_0 : decode cX0_make 0 = .ok (.aload_n 2, 1) := by decide +kernel
theorem dX0_make_1 : decode cX0_make 1 = .ok (.invokevirtual 9, 3) := by decide +kernel
theorem dX0_make_4 : decode cX0_make 4 = .ok (.iconst 0, 1) := by decide +kernel
theorem dX0_make_5 : decode cX0_make 5 = .ok (.istore_n 3, 1) := by decide +kernel
theorem dX0_make_6 : decode cX0_make 6 = .ok (.aload_n 1, 1) := by decide +kernel
theorem dX0_make_7 : decode cX0_make 7 = .ok (.getfield 14, 3) := by decide +kernel
theorem dX0_make_10 : decode cX0_make 10 = .ok (.invokevirtual 20, 3) := by decide +kernel
theorem dX0_make_13 : decode cX0_make 13 = .ok (.ifCond .ne 31, 3) := by decide +kernel
theorem dX0_make_16 : decode cX0_make 16 = .ok (.aload_n 0, 1) := by decide +kernel
theorem dX0_make_17 : decode cX0_make 17 = .ok (.getfield 26, 3) := by decide +kernel
theorem dX0_make_20 : decode cX0_make 20 = .ok (.ifCond .le 24, 3) := by decide +kernel
theorem dX0_make_23 : decode cX0_make 23 = .ok (.aload_n 0, 1) := by decide +kernel
theorem dX0_make_24 : decode cX0_make 24 = .ok (.aload_n 1, 1) := by decide +kernel
theorem dX0_make_25 : decode cX0_make 25 = .ok (.aload_n 2, 1) := by decide +kernel
theorem dX0_make_26 : decode cX0_make 26 = .ok (.aload_n 2, 1) := by decide +kernel
theorem dX0_make_27 : decode cX0_make 27 = .ok (.iconst 3, 1) := by decide +kernel
theorem dX0_make_28 : decode cX0_make 28 = .ok (.iconst 0, 1) := by decide +kernel
theorem dX0_make_29 : decode cX0_make 29 = .ok (.aload_n 0, 1) := by decide +kernel
theorem dX0_make_30 : decode cX0_make 30 = .ok (.getfield 26, 3) := by decide +kernel
theorem dX0_make_33 : decode cX0_make 33 = .ok (.invokevirtual 32, 3) := by decide +kernel
theorem dX0_make_36 : decode cX0_make 36 = .ok (.invokestatic 36, 3) := by decide +kernel
theorem dX0_make_39 : decode cX0_make 39 = .ok (.aload_n 0, 1) := by decide +kernel
theorem dX0_make_40 : decode cX0_make 40 = .ok (.getfield 26, 3) := by decide +kernel
theorem dX0_make_43 : decode cX0_make 43 = .ok (.istore_n 3, 1) := by decide +kernel
theorem dX0_make_44 : decode cX0_make 44 = .ok (.iconst 0, 1) := by decide +kernel
theorem dX0_make_45 : decode cX0_make 45 = .ok (.istore 4, 2) := by decide +kernel
theorem dX0_make_47 : decode cX0_make 47 = .ok (.iload 4, 2) := by decide +kernel
theorem dX0_make_49 : decode cX0_make 49 = .ok (.aload_n 0, 1) := by decide +kernel
theorem dX0_make_50 : decode cX0_make 50 = .ok (.getfield 26, 3) := by decide +kernel
theorem dX0_make_53 : decode cX0_make 53 = .ok (.if_icmp .ge 27, 3) := by decide +kernel
theorem dX0_make_56 : decode cX0_make 56 = .ok (.iload 4, 2) := by decide +kernel
theorem dX0_make_58 : decode cX0_make 58 = .ok (.iload_n 3, 1) := by decide +kernel
theorem dX0_make_59 : decode cX0_make 59 = .ok (.if_icmp .lt 15, 3) := by decide +kernel
theorem dX0_make_62 : decode cX0_make 62 = .ok (.iload 4, 2) := by decide +kernel
theorem dX0_make_64 : decode cX0_make 64 = .ok (.aload_n 0, 1) := by decide +kernel
theorem dX0_make_65 : decode cX0_make 65 = .ok (.aload_n 1, 1) := by decide +kernel
theorem dX0_make_66 : decode cX0_make 66 = .ok (.aload_n 2, 1) := by decide +kernel
theorem dX0_make_67 : decode cX0_make 67 = .ok (.iload 4, 2) := by decide +kernel
theorem dX0_make_69 : decode cX0_make 69 = .ok (.invokestatic 42, 3) := by decide +kernel
theorem dX0_make_72 : decode cX0_make 72 = .ok (.iadd, 1) := by decide +kernel
theorem dX0_make_73 : decode cX0_make 73 = .ok (.istore_n 3, 1) := by decide +kernel
theorem dX0_make_74 : decode cX0_make 74 = .ok (.iinc 4 1, 3) := by decide +kernel
theorem dX0_make_77 : decode cX0_make 77 = .ok (.goto (-30), 3) := by decide +kernel
theorem dX0_make_80 : decode cX0_make 80 = .ok (.return_, 1) := by decide +kernel
set_option maxRecDepth 20000 in
theorem ggX0_addRowAt_X3_size : GoodIn wsX0_addRowAt wsX3_size := goodIn_r _ [5, 6, 126, 127] (by decide +kernel) (by decide +kernel)
set_option maxRecDepth 20000 in
theorem gX0_addRowAt_X3_size : GoodIn wsX0_addRowAt (wsV RX0 46 RX3 yX3_size wsX3_size) := goodIn_app (goodIn_of _ (by decide +kernel)) ggX0_addRowAt_X3_size
set_option maxRecDepth 20000 in
theorem ggX0_addRowAt_X5_cueFor : GoodIn wsX0_addRowAt wsX5_cueFor := goodIn_r _ [11, 12, 13, 2, 3, 4, 5, 6, 14, 15, 10, 16, 17, 18, 19, 20, 21, 121, 122, 123, 124, 125, 128, 129, 130, 131, 132, 126, 127] (by decide +kernel) (by decide +kernel)
set_option maxRecDepth 20000 in
theorem gX0_addRowAt_X5_cueFor : GoodIn wsX0_addRowAt (wsV RX0 50 RX5 yX5_cueFor wsX5_cueFor) := goodIn_app (goodIn_of _ (by decide +kernel)) ggX0_addRowAt_X5_cueFor
set_option maxRecDepth 20000 in
theorem ggX0_addRowAt_X0_restLength : GoodIn wsX0_addRowAt wsX0_restLength := goodIn_r _ [25, 1, 2, 3, 4, 5, 6, 26, 27, 28, 29, 30, 31, 32, 33, 34, 35, 36, 37, 38, 7, 8, 9, 10, 11, 12, 13, 14, 15, 16, 17, 18, 19, 20, 21, 128, 129, 130, 131, 132, 121, 122, 123, 124, 125, 126, 127, 133] (by decide +kernel) (by decide +kernel)
set_option maxRecDepth 20000 in
theorem gX0_addRowAt_X0_restLength : GoodIn wsX0_addRowAt (va_wsS RX0 54 yX0_restLength wsX0_restLength) := goodIn_app (goodIn_of _ (by decide +kernel)) ggX0_addRowAt_X0_restLength
set_option maxRecDepth 20000 in
theorem ggX0_addRowAt_X4_addRow : GoodIn wsX0_addRowAt wsX4_addRow := goodIn_r _ [43, 44, 45, 46, 47, 42, 48, 49, 50, 51, 52, 53, 134, 135, 136] (by decide +kernel) (by decide +kernel)
set_option maxRecDepth 20000 in
theorem gX0_addRowAt_X4_addRow : GoodIn wsX0_addRowAt (wsV RX0 32 RX4 yX4_addRow wsX4_addRow) := goodIn_app (goodIn_of _ (by decide +kernel)) ggX0_addRowAt_X4_addRow
set_option maxRecDepth 20000 in
theorem ggX0_addRowAt_X0_writeNotes : GoodIn wsX0_addRowAt wsX0_writeNotes := goodIn_r _ [56, 57, 58, 59, 42, 60, 49, 50, 51, 52, 53, 44, 61, 62, 63, 29, 64, 31, 32, 33, 34, 35, 36, 37, 38, 1, 2, 3, 4, 5, 6, 65, 66, 67, 68, 69, 70, 71, 72, 73, 74, 75, 76, 77, 78, 79, 80, 81, 82, 83, 84, 85, 86, 87, 88, 89, 90, 91, 92, 93, 94, 95, 96, 97, 98, 99, 100, 101, 102, 103, 104, 105, 106, 46, 47, 48, 128, 129, 130, 131, 132, 121, 122, 123, 124, 125, 134, 135, 136, 133, 126, 127] (by decide +kernel) (by decide +kernel)
set_option maxRecDepth 20000 in
theorem gX0_addRowAt_X0_writeNotes : GoodIn wsX0_addRowAt (va_wsS RX0 58 yX0_writeNotes wsX0_writeNotes) := goodIn_app (goodIn_of _ (by decide +kernel)) ggX0_addRowAt_X0_writeNotes
set_option maxRecDepth 20000 in
theorem ggX0_addRowAt_X4_setFigure : GoodIn wsX0_addRowAt wsX4_setFigure := goodIn_r _ [48, 49, 50, 51, 52, 42, 53, 44, 134, 135, 136] (by decide +kernel) (by decide +kernel)
set_option maxRecDepth 20000 in
theorem gX0_addRowAt_X4_setFigure : GoodIn wsX0_addRowAt (wsV RX0 65 RX4 yX4_setFigure wsX4_setFigure) := goodIn_app (goodIn_of _ (by decide +kernel)) ggX0_addRowAt_X4_setFigure
set_option maxRecDepth 20000 in
theorem ggX0_addRowAt_X0_finishRow : GoodIn wsX0_addRowAt wsX0_finishRow := goodIn_r _ [109, 57, 58, 59, 42, 60, 49, 50, 51, 52, 53, 44, 26, 27, 28, 29, 30, 31, 32, 33, 34, 35, 36, 37, 38, 110, 111, 24, 112, 113, 114, 115, 4, 116, 97, 2, 3, 5, 6, 102, 66, 67, 68, 69, 106, 46, 47, 48, 61, 62, 63, 64, 117, 118, 119, 73, 120, 75, 85, 86, 87, 88, 128, 129, 130, 131, 132, 134, 135, 136, 133, 126, 127, 121, 122, 123, 124, 125] (by decide +kernel) (by decide +kernel)
set_option maxRecDepth 20000 in
theorem gX0_addRowAt_X0_finishRow : GoodIn wsX0_addRowAt (va_wsS RX0 36 yX0_finishRow wsX0_finishRow) := goodIn_app (goodIn_of _ (by decide +kernel)) ggX0_addRowAt_X0_finishRow
theorem dX0_addRowAt_0 : decode cX0_addRowAt 0 = .ok (.iconst 0, 1) := by decide +kernel
theorem dX0_addRowAt_1 : decode cX0_addRowAt 1 = .ok (.istore 4, 2) := by decide +kernel
theorem dX0_addRowAt_3 : decode cX0_addRowAt 3 = .ok (.iconst 1, 1) := by decide +kernel
theorem dX0_addRowAt_4 : decode cX0_addRowAt 4 = .ok (.istore 5, 2) := by decide +kernel
theorem dX0_addRowAt_6 : decode cX0_addRowAt 6 = .ok (.aload_n 1, 1) := by decide +kernel
theorem dX0_addRowAt_7 : decode cX0_addRowAt 7 = .ok (.astore 6, 2) := by decide +kernel
theorem dX0_addRowAt_9 : decode cX0_addRowAt 9 = .ok (.aload_n 1, 1) := by decide +kernel
theorem dX0_addRowAt_10 : decode cX0_addRowAt 10 = .ok (.getfield 14, 3) := by decide +kernel
theorem dX0_addRowAt_13 : decode cX0_addRowAt 13 = .ok (.iload_n 3, 1) := by decide +kernel
theorem dX0_addRowAt_14 : decode cX0_addRowAt 14 = .ok (.invokevirtual 46, 3) := by decide +kernel
theorem dX0_addRowAt_17 : decode cX0_addRowAt 17 = .ok (.ifCond .ne 23, 3) := by decide +kernel
theorem dX0_addRowAt_20 : decode cX0_addRowAt 20 = .ok (.aload_n 0, 1) := by decide +kernel
theorem dX0_addRowAt_21 : decode cX0_addRowAt 21 = .ok (.aload_n 1, 1) := by decide +kernel
theorem dX0_addRowAt_22 : decode cX0_addRowAt 22 = .ok (.iload_n 3, 1) := by decide +kernel
theorem dX0_addRowAt_23 : decode cX0_addRowAt 23 = .ok (.invokevirtual 50, 3) := by decide +kernel
theorem dX0_addRowAt_26 : decode cX0_addRowAt 26 = .ok (.astore 6, 2) := by decide +kernel
theorem dX0_addRowAt_28 : decode cX0_addRowAt 28 = .ok (.aload 6, 2) := by decide +kernel
theorem dX0_addRowAt_30 : decode cX0_addRowAt 30 = .ok (.ifnonnull 7, 3) := by decide +kernel
theorem dX0_addRowAt_33 : decode cX0_addRowAt 33 = .ok (.iconst 1, 1) := by decide +kernel
theorem dX0_addRowAt_34 : decode cX0_addRowAt 34 = .ok (.goto 4, 3) := by decide +kernel
theorem dX0_addRowAt_37 : decode cX0_addRowAt 37 = .ok (.iconst 2, 1) := by decide +kernel
theorem dX0_addRowAt_38 : decode cX0_addRowAt 38 = .ok (.istore 4, 2) := by decide +kernel
theorem dX0_addRowAt_40 : decode cX0_addRowAt 40 = .ok (.iload 4, 2) := by decide +kernel
theorem dX0_addRowAt_42 : decode cX0_addRowAt 42 = .ok (.iconst 1, 1) := by decide +kernel
theorem dX0_addRowAt_43 : decode cX0_addRowAt 43 = .ok (.if_icmp .ne 11, 3) := by decide +kernel
theorem dX0_addRowAt_46 : decode cX0_addRowAt 46 = .ok (.aload_n 0, 1) := by decide +kernel
theorem dX0_addRowAt_47 : decode cX0_addRowAt 47 = .ok (.aload_n 1, 1) := by decide +kernel
theorem dX0_addRowAt_48 : decode cX0_addRowAt 48 = .ok (.iload_n 3, 1) := by decide +kernel
theorem dX0_addRowAt_49 : decode cX0_addRowAt 49 = .ok (.invokestatic 54, 3) := by decide +kernel
theorem dX0_addRowAt_52 : decode cX0_addRowAt 52 = .ok (.istore 5, 2) := by decide +kernel
theorem dX0_addRowAt_54 : decode cX0_addRowAt 54 = .ok (.aload_n 2, 1) := by decide +kernel
theorem dX0_addRowAt_55 : decode cX0_addRowAt 55 = .ok (.iload 4, 2) := by decide +kernel
theorem dX0_addRowAt_57 : decode cX0_addRowAt 57 = .ok (.iload_n 3, 1) := by decide +kernel
theorem dX0_addRowAt_58 : decode cX0_addRowAt 58 = .ok (.iload 5, 2) := by decide +kernel
theorem dX0_addRowAt_60 : decode cX0_addRowAt 60 = .ok (.invokevirtual 32, 3) := by decide +kernel
theorem dX0_addRowAt_63 : decode cX0_addRowAt 63 = .ok (.istore 7, 2) := by decide +kernel
theorem dX0_addRowAt_65 : decode cX0_addRowAt 65 = .ok (.aload 6, 2) := by decide +kernel
theorem dX0_addRowAt_67 : decode cX0_addRowAt 67 = .ok (.ifnull 13, 3) := by decide +kernel
theorem dX0_addRowAt_70 : decode cX0_addRowAt 70 = .ok (.aload_n 0, 1) := by decide +kernel
theorem dX0_addRowAt_71 : decode cX0_addRowAt 71 = .ok (.aload_n 1, 1) := by decide +kernel
theorem dX0_addRowAt_72 : decode cX0_addRowAt 72 = .ok (.aload 6, 2) := by decide +kernel
theorem dX0_addRowAt_74 : decode cX0_addRowAt 74 = .ok (.aload_n 2, 1) := by decide +kernel
theorem dX0_addRowAt_75 : decode cX0_addRowAt 75 = .ok (.iload 7, 2) := by decide +kernel
theorem dX0_addRowAt_77 : decode cX0_addRowAt 77 = .ok (.invokestatic 58, 3) := by decide +kernel
theorem dX0_addRowAt_80 : decode cX0_addRowAt 80 = .ok (.aload 6, 2) := by decide +kernel
theorem dX0_addRowAt_82 : decode cX0_addRowAt 82 = .ok (.ifnull 22, 3) := by decide +kernel
theorem dX0_addRowAt_85 : decode cX0_addRowAt 85 = .ok (.iload 4, 2) := by decide +kernel
theorem dX0_addRowAt_87 : decode cX0_addRowAt 87 = .ok (.iconst 2, 1) := by decide +kernel
theorem dX0_addRowAt_88 : decode cX0_addRowAt 88 = .ok (.if_icmp .ne 16, 3) := by decide +kernel
theorem dX0_addRowAt_91 : decode cX0_addRowAt 91 = .ok (.aload_n 2, 1) := by decide +kernel
theorem dX0_addRowAt_92 : decode cX0_addRowAt 92 = .ok (.iload 7, 2) := by decide +kernel
theorem dX0_addRowAt_94 : decode cX0_addRowAt 94 = .ok (.bipush 6, 2) := by decide +kernel
theorem dX0_addRowAt_96 : decode cX0_addRowAt 96 = .ok (.aload 6, 2) := by decide +kernel
theorem dX0_addRowAt_98 : decode cX0_addRowAt 98 = .ok (.getfield 62, 3) := by decide +kernel
theorem dX0_addRowAt_101 : decode cX0_addRowAt 101 = .ok (.invokevirtual 65, 3) := by decide +kernel
theorem dX0_addRowAt_104 : decode cX0_addRowAt 104 = .ok (.aload_n 0, 1) := by decide +kernel
theorem dX0_addRowAt_105 : decode cX0_addRowAt 105 = .ok (.aload_n 1, 1) := by decide +kernel
theorem dX0_addRowAt_106 : decode cX0_addRowAt 106 = .ok (.aload_n 2, 1) := by decide +kernel
theorem dX0_addRowAt_107 : decode cX0_addRowAt 107 = .ok (.iload 7, 2) := by decide +kernel
theorem dX0_addRowAt_109 : decode cX0_addRowAt 109 = .ok (.invokestatic 36, 3) := by decide +kernel
theorem dX0_addRowAt_112 : decode cX0_addRowAt 112 = .ok (.iload 5, 2) := by decide +kernel
theorem dX0_addRowAt_114 : decode cX0_addRowAt 114 = .ok (.ireturn, 1) := by decide +kernel
set_option maxRecDepth 20000 in
theorem ggX0_restLength_X3_size : GoodIn wsX0_restLength wsX3_size := goodIn_r _ [5, 6, 45, 46] (by decide +kernel) (by decide +kernel)
set_option maxRecDepth 20000 in
theorem gX0_restLength_X3_size : GoodIn wsX0_restLength (wsV RX0 46 RX3 yX3_size wsX3_size) := goodIn_app (goodIn_of _ (by decide +kernel)) ggX0_restLength_X3_size
set_option maxRecDepth 20000 in
theorem ggX0_restLength_X2_isNeeded : GoodIn wsX0_restLength wsX2_isNeeded := goodIn_r _ [11, 12, 13, 14, 10, 15, 16, 17, 18, 19, 47] (by decide +kernel) (by decide +kernel)
set_option maxRecDepth 20000 in
theorem gX0_restLength_X2_isNeeded : GoodIn wsX0_restLength (wsV RX0 73 RX2 yX2_isNeeded wsX2_isNeeded) := goodIn_app (goodIn_of _ (by decide +kernel)) ggX0_restLength_X2_isNeeded
set_option maxRecDepth 20000 in
theorem ggX0_restLength_X5_cueFor : GoodIn wsX0_restLength wsX5_cueFor := goodIn_r _ [24, 25, 26, 2, 3, 4, 5, 6, 27, 28, 23, 29, 30, 31, 32, 33, 34, 40, 41, 42, 43, 44, 35, 36, 37, 38, 39, 45, 46] (by decide +kernel) (by decide +kernel)
set_option maxRecDepth 20000 in
theorem gX0_restLength_X5_cueFor : GoodIn wsX0_restLength (wsV RX0 50 RX5 yX5_cueFor wsX5_cueFor) := goodIn_app (goodIn_of _ (by decide +kernel)) ggX0_restLength_X5_cueFor
theorem dX0_restLength_0 : decode cX0_restLength 0 = .ok (.iload_n 2, 1) := by decide +kernel
theorem dX0_restLength_1 : decode cX0_restLength 1 = .ok (.iconst 1, 1) := by decide +kernel
theorem dX0_restLength_2 : decode cX0_restLength 2 = .ok (.iadd, 1) := by decide +kernel
theorem dX0_restLength_3 : decode cX0_restLength 3 = .ok (.istore_n 3, 1) := by decide +kernel
theorem dX0_restLength_4 : decode cX0_restLength 4 = .ok (.iload_n 3, 1) := by decide +kernel
theorem dX0_restLength_5 : decode cX0_restLength 5 = .ok (.aload_n 0, 1) := by decide +kernel
theorem dX0_restLength_6 : decode cX0_restLength 6 = .ok (.getfield 26, 3) := by decide +kernel
theorem dX0_restLength_9 : decode cX0_restLength 9 = .ok (.if_icmp .ge 40, 3) := by decide +kernel
theorem dX0_restLength_12 : decode cX0_restLength 12 = .ok (.aload_n 1, 1) := by decide +kernel
theorem dX0_restLength_13 : decode cX0_restLength 13 = .ok (.getfield 14, 3) := by decide +kernel
theorem dX0_restLength_16 : decode cX0_restLength 16 = .ok (.iload_n 3, 1) := by decide +kernel
theorem dX0_restLength_17 : decode cX0_restLength 17 = .ok (.invokevirtual 46, 3) := by decide +kernel
theorem dX0_restLength_20 : decode cX0_restLength 20 = .ok (.ifCond .ne 29, 3) := by decide +kernel
theorem dX0_restLength_23 : decode cX0_restLength 23 = .ok (.aload_n 0, 1) := by decide +kernel
theorem dX0_restLength_24 : decode cX0_restLength 24 = .ok (.getfield 69, 3) := by decide +kernel
theorem dX0_restLength_27 : decode cX0_restLength 27 = .ok (.iload_n 3, 1) := by decide +kernel
theorem dX0_restLength_28 : decode cX0_restLength 28 = .ok (.invokevirtual 73, 3) := by decide +kernel
theorem dX0_restLength_31 : decode cX0_restLength 31 = .ok (.ifCond .ne 18, 3) := by decide +kernel
theorem dX0_restLength_34 : decode cX0_restLength 34 = .ok (.aload_n 0, 1) := by decide +kernel
theorem dX0_restLength_35 : decode cX0_restLength 35 = .ok (.aload_n 1, 1) := by decide +kernel
theorem dX0_restLength_36 : decode cX0_restLength 36 = .ok (.iload_n 3, 1) := by decide +kernel
theorem dX0_restLength_37 : decode cX0_restLength 37 = .ok (.invokevirtual 50, 3) := by decide +kernel
theorem dX0_restLength_40 : decode cX0_restLength 40 = .ok (.ifnonnull 9, 3) := by decide +kernel
theorem dX0_restLength_43 : decode cX0_restLength 43 = .ok (.iinc 3 1, 3) := by decide +kernel
theorem dX0_restLength_46 : decode cX0_restLength 46 = .ok (.goto (-42), 3) := by decide +kernel
theorem dX0_restLength_49 : decode cX0_restLength 49 = .ok (.iload_n 3, 1) := by decide +kernel
theorem dX0_restLength_50 : decode cX0_restLength 50 = .ok (.iload_n 2, 1) := by decide +kernel
theorem dX0_restLength_51 : decode cX0_restLength 51 = .ok (.isub, 1) := by decide +kernel
theorem dX0_restLength_52 : decode cX0_restLength 52 = .ok (.ireturn, 1) := by decide +kernel
set_option maxRecDepth 20000 in
theorem ggX0_writeNotes_X4_figure : GoodIn wsX0_writeNotes wsX4_figure := goodIn_r _ [5, 6, 7, 8, 9, 4, 10, 11, 86, 87, 88] (by decide +kernel) (by decide +kernel)
set_option maxRecDepth 20000 in
theorem gX0_writeNotes_X4_figure : GoodIn wsX0_writeNotes (wsV RX0 79 RX4 yX4_figure wsX4_figure) := goodIn_app (goodIn_of _ (by decide +kernel)) ggX0_writeNotes_X4_figure
set_option maxRecDepth 20000 in
theorem ggX0_writeNotes_X2_keyAt : GoodIn wsX0_writeNotes wsX2_keyAt := goodIn_r _ [16, 17, 18, 19, 15, 20, 21, 22, 23, 24, 89] (by decide +kernel) (by decide +kernel)
set_option maxRecDepth 20000 in
theorem gX0_writeNotes_X2_keyAt : GoodIn wsX0_writeNotes (wsV RX0 83 RX2 yX2_keyAt wsX2_keyAt) := goodIn_app (goodIn_of _ (by decide +kernel)) ggX0_writeNotes_X2_keyAt
set_option maxRecDepth 20000 in
theorem ggX0_writeNotes_X3_size : GoodIn wsX0_writeNotes wsX3_size := goodIn_r _ [29, 30, 90, 91] (by decide +kernel) (by decide +kernel)
set_option maxRecDepth 20000 in
theorem gX0_writeNotes_X3_size : GoodIn wsX0_writeNotes (wsV RX0 46 RX3 yX3_size wsX3_size) := goodIn_app (goodIn_of _ (by decide +kernel)) ggX0_writeNotes_X3_size
set_option maxRecDepth 20000 in
theorem ggX0_writeNotes_X3_figure : GoodIn wsX0_writeNotes wsX3_figure := goodIn_r _ [34, 30, 35, 90, 91] (by decide +kernel) (by decide +kernel)
set_option maxRecDepth 20000 in
theorem gX0_writeNotes_X3_figure : GoodIn wsX0_writeNotes (wsV RX0 87 RX3 yX3_figure wsX3_figure) := goodIn_app (goodIn_of _ (by decide +kernel)) ggX0_writeNotes_X3_figure
set_option maxRecDepth 20000 in
theorem ggX0_writeNotes_X6_pitchFor : GoodIn wsX0_writeNotes wsX6_pitchFor := goodIn_r _ [40, 41, 42, 43, 44, 45, 46, 81, 82, 83, 84, 85] (by decide +kernel) (by decide +kernel)
set_option maxRecDepth 20000 in
theorem gX0_writeNotes_X6_pitchFor : GoodIn wsX0_writeNotes (wsV RX0 89 RX6 yX6_pitchFor wsX6_pitchFor) := goodIn_app (goodIn_of _ (by decide +kernel)) ggX0_writeNotes_X6_pitchFor
set_option maxRecDepth 20000 in
theorem ggX0_writeNotes_X6_spellingFor : GoodIn wsX0_writeNotes wsX6_spellingFor := goodIn_r _ [50, 41, 51, 52, 53, 39, 54, 81, 82, 83, 84, 85] (by decide +kernel) (by decide +kernel)
set_option maxRecDepth 20000 in
theorem gX0_writeNotes_X6_spellingFor : GoodIn wsX0_writeNotes (wsV RX0 92 RX6 yX6_spellingFor wsX6_spellingFor) := goodIn_app (goodIn_of _ (by decide +kernel)) ggX0_writeNotes_X6_spellingFor
set_option maxRecDepth 20000 in
theorem ggX0_writeNotes_X3_insert : GoodIn wsX0_writeNotes wsX3_insert := goodIn_r _ [58, 35, 59, 60, 61, 62, 30, 63, 26, 27, 28, 29, 64, 65, 66, 67, 68, 32, 33, 34, 69, 70, 71, 90, 91] (by decide +kernel) (by decide +kernel)
set_option maxRecDepth 20000 in
theorem gX0_writeNotes_X3_insert : GoodIn wsX0_writeNotes (wsV RX0 95 RX3 yX3_insert wsX3_insert) := goodIn_app (goodIn_of _ (by decide +kernel)) ggX0_writeNotes_X3_insert
set_option maxRecDepth 20000 in
theorem ggX0_writeNotes_X4_setFigure : GoodIn wsX0_writeNotes wsX4_setFigure := goodIn_r _ [75, 6, 7, 8, 9, 4, 10, 11, 86, 87, 88] (by decide +kernel) (by decide +kernel)
set_option maxRecDepth 20000 in
theorem gX0_writeNotes_X4_setFigure : GoodIn wsX0_writeNotes (wsV RX0 65 RX4 yX4_setFigure wsX4_setFigure) := goodIn_app (goodIn_of _ (by decide +kernel)) ggX0_writeNotes_X4_setFigure
theorem dX0_writeNotes_0 : decode cX0_writeNotes 0 = .ok (.aload_n 3, 1) := by decide +kernel
theorem dX0_writeNotes_1 : decode cX0_writeNotes 1 = .ok (.iload 4, 2) := by decide +kernel
theorem dX0_writeNotes_3 : decode cX0_writeNotes 3 = .ok (.iconst 1, 1) := by decide +kernel
theorem dX0_writeNotes_4 : decode cX0_writeNotes 4 = .ok (.invokevirtual 79, 3) := by decide +kernel
theorem dX0_writeNotes_7 : decode cX0_writeNotes 7 = .ok (.istore 5, 2) := by decide +kernel
theorem dX0_writeNotes_9 : decode cX0_writeNotes 9 = .ok (.aload_n 0, 1) := by decide +kernel
theorem dX0_writeNotes_10 : decode cX0_writeNotes 10 = .ok (.getfield 69, 3) := by decide +kernel
theorem dX0_writeNotes_13 : decode cX0_writeNotes 13 = .ok (.iload 5, 2) := by decide +kernel
theorem dX0_writeNotes_15 : decode cX0_writeNotes 15 = .ok (.invokevirtual 83, 3) := by decide +kernel
theorem dX0_writeNotes_18 : decode cX0_writeNotes 18 = .ok (.istore 6, 2) := by decide +kernel
theorem dX0_writeNotes_20 : decode cX0_writeNotes 20 = .ok (.aload_n 2, 1) := by decide +kernel
theorem dX0_writeNotes_21 : decode cX0_writeNotes 21 = .ok (.getfield 14, 3) := by decide +kernel
theorem dX0_writeNotes_24 : decode cX0_writeNotes 24 = .ok (.iload 5, 2) := by decide +kernel
theorem dX0_writeNotes_26 : decode cX0_writeNotes 26 = .ok (.invokevirtual 46, 3) := by decide +kernel
theorem dX0_writeNotes_29 : decode cX0_writeNotes 29 = .ok (.istore 7, 2) := by decide +kernel
theorem dX0_writeNotes_31 : decode cX0_writeNotes 31 = .ok (.iconst 0, 1) := by decide +kernel
theorem dX0_writeNotes_32 : decode cX0_writeNotes 32 = .ok (.istore 8, 2) := by decide +kernel
theorem dX0_writeNotes_34 : decode cX0_writeNotes 34 = .ok (.iload 8, 2) := by decide +kernel
theorem dX0_writeNotes_36 : decode cX0_writeNotes 36 = .ok (.iload 7, 2) := by decide +kernel
theorem dX0_writeNotes_38 : decode cX0_writeNotes 38 = .ok (.if_icmp .ge 76, 3) := by decide +kernel
theorem dX0_writeNotes_41 : decode cX0_writeNotes 41 = .ok (.aload_n 3, 1) := by decide +kernel
theorem dX0_writeNotes_42 : decode cX0_writeNotes 42 = .ok (.getfield 86, 3) := by decide +kernel
theorem dX0_writeNotes_45 : decode cX0_writeNotes 45 = .ok (.iload 4, 2) := by decide +kernel
theorem dX0_writeNotes_47 : decode cX0_writeNotes 47 = .ok (.aload_n 2, 1) := by decide +kernel
theorem dX0_writeNotes_48 : decode cX0_writeNotes 48 = .ok (.getfield 14, 3) := by decide +kernel
theorem dX0_writeNotes_51 : decode cX0_writeNotes 51 = .ok (.iload 5, 2) := by decide +kernel
theorem dX0_writeNotes_53 : decode cX0_writeNotes 53 = .ok (.iload 8, 2) := by decide +kernel
theorem dX0_writeNotes_55 : decode cX0_writeNotes 55 = .ok (.iconst 0, 1) := by decide +kernel
theorem dX0_writeNotes_56 : decode cX0_writeNotes 56 = .ok (.invokevirtual 87, 3) := by decide +kernel
theorem dX0_writeNotes_59 : decode cX0_writeNotes 59 = .ok (.aload_n 2, 1) := by decide +kernel
theorem dX0_writeNotes_60 : decode cX0_writeNotes 60 = .ok (.getfield 14, 3) := by decide +kernel
theorem dX0_writeNotes_63 : decode cX0_writeNotes 63 = .ok (.iload 5, 2) := by decide +kernel
theorem dX0_writeNotes_65 : decode cX0_writeNotes 65 = .ok (.iload 8, 2) := by decide +kernel
theorem dX0_writeNotes_67 : decode cX0_writeNotes 67 = .ok (.iconst 1, 1) := by decide +kernel
theorem dX0_writeNotes_68 : decode cX0_writeNotes 68 = .ok (.invokevirtual 87, 3) := by decide +kernel
theorem dX0_writeNotes_71 : decode cX0_writeNotes 71 = .ok (.aload_n 1, 1) := by decide +kernel
theorem dX0_writeNotes_72 : decode cX0_writeNotes 72 = .ok (.aload_n 2, 1) := by decide +kernel
theorem dX0_writeNotes_73 : decode cX0_writeNotes 73 = .ok (.getfield 14, 3) := by decide +kernel
theorem dX0_writeNotes_76 : decode cX0_writeNotes 76 = .ok (.iload 5, 2) := by decide +kernel
theorem dX0_writeNotes_78 : decode cX0_writeNotes 78 = .ok (.iload 8, 2) := by decide +kernel
theorem dX0_writeNotes_80 : decode cX0_writeNotes 80 = .ok (.iconst 2, 1) := by decide +kernel
theorem dX0_writeNotes_81 : decode cX0_writeNotes 81 = .ok (.invokevirtual 87, 3) := by decide +kernel
theorem dX0_writeNotes_84 : decode cX0_writeNotes 84 = .ok (.invokevirtual 89, 3) := by decide +kernel
theorem dX0_writeNotes_87 : decode cX0_writeNotes 87 = .ok (.aload_n 1, 1) := by decide +kernel
theorem dX0_writeNotes_88 : decode cX0_writeNotes 88 = .ok (.aload_n 2, 1) := by decide +kernel
theorem dX0_writeNotes_89 : decode cX0_writeNotes 89 = .ok (.getfield 14, 3) := by decide +kernel
theorem dX0_writeNotes_92 : decode cX0_writeNotes 92 = .ok (.iload 5, 2) := by decide +kernel
theorem dX0_writeNotes_94 : decode cX0_writeNotes 94 = .ok (.iload 8, 2) := by decide +kernel
theorem dX0_writeNotes_96 : decode cX0_writeNotes 96 = .ok (.iconst 3, 1) := by decide +kernel
theorem dX0_writeNotes_97 : decode cX0_writeNotes 97 = .ok (.invokevirtual 87, 3) := by decide +kernel
theorem dX0_writeNotes_100 : decode cX0_writeNotes 100 = .ok (.iload 6, 2) := by decide +kernel
theorem dX0_writeNotes_102 : decode cX0_writeNotes 102 = .ok (.invokevirtual 92, 3) := by decide +kernel
theorem dX0_writeNotes_105 : decode cX0_writeNotes 105 = .ok (.invokevirtual 95, 3) := by decide +kernel
theorem dX0_writeNotes_108 : decode cX0_writeNotes 108 = .ok (.iinc 8 1, 3) := by decide +kernel
theorem dX0_writeNotes_111 : decode cX0_writeNotes 111 = .ok (.goto (-77), 3) := by decide +kernel
theorem dX0_writeNotes_114 : decode cX0_writeNotes 114 = .ok (.aload_n 3, 1) := by decide +kernel
theorem dX0_writeNotes_115 : decode cX0_writeNotes 115 = .ok (.iload 4, 2) := by decide +kernel
theorem dX0_writeNotes_117 : decode cX0_writeNotes 117 = .ok (.iconst 5, 1) := by decide +kernel
theorem dX0_writeNotes_118 : decode cX0_writeNotes 118 = .ok (.iload 7, 2) := by decide +kernel
theorem dX0_writeNotes_120 : decode cX0_writeNotes 120 = .ok (.invokevirtual 65, 3) := by decide +kernel
theorem dX0_writeNotes_123 : decode cX0_writeNotes 123 = .ok (.return_, 1) := by decide +kernel
set_option maxRecDepth 20000 in
theorem ggX0_finishRow_X4_figure : GoodIn wsX0_finishRow wsX4_figure := goodIn_r _ [5, 6, 7, 8, 9, 4, 10, 11, 67, 68, 69] (by decide +kernel) (by decide +kernel)
set_option maxRecDepth 20000 in
theorem gX0_finishRow_X4_figure : GoodIn wsX0_finishRow (wsV RX0 79 RX4 yX4_figure wsX4_figure) := goodIn_app (goodIn_of _ (by decide +kernel)) ggX0_finishRow_X4_figure
set_option maxRecDepth 20000 in
theorem ggX0_finishRow_X2_isNeeded : GoodIn wsX0_finishRow wsX2_isNeeded := goodIn_r _ [16, 17, 18, 19, 15, 20, 21, 22, 23, 24, 70] (by decide +kernel) (by decide +kernel)
set_option maxRecDepth 20000 in
theorem gX0_finishRow_X2_isNeeded : GoodIn wsX0_finishRow (wsV RX0 73 RX2 yX2_isNeeded wsX2_isNeeded) := goodIn_app (goodIn_of _ (by decide +kernel)) ggX0_finishRow_X2_isNeeded
set_option maxRecDepth 20000 in
theorem ggX0_finishRow_X0_bareWidth : GoodIn wsX0_finishRow wsX0_bareWidth := goodIn_r _ [28, 29, 30, 31, 32, 33, 34, 35, 36, 37, 38, 39, 40, 41, 42, 43, 1, 2, 3, 4, 5, 6, 7, 8, 9, 10, 11, 67, 68, 69, 71, 72] (by decide +kernel) (by decide +kernel)
set_option maxRecDepth 20000 in
theorem gX0_finishRow_X0_bareWidth : GoodIn wsX0_finishRow (va_wsS RX0 99 yX0_bareWidth wsX0_bareWidth) := goodIn_app (goodIn_of _ (by decide +kernel)) ggX0_finishRow_X0_bareWidth
set_option maxRecDepth 20000 in
theorem ggX0_finishRow_X4_setFigure : GoodIn wsX0_finishRow wsX4_setFigure := goodIn_r _ [47, 6, 7, 8, 9, 4, 10, 11, 67, 68, 69] (by decide +kernel) (by decide +kernel)
set_option maxRecDepth 20000 in
theorem gX0_finishRow_X4_setFigure : GoodIn wsX0_finishRow (wsV RX0 65 RX4 yX4_setFigure wsX4_setFigure) := goodIn_app (goodIn_of _ (by decide +kernel)) ggX0_finishRow_X4_setFigure
set_option maxRecDepth 20000 in
theorem ggX0_finishRow_X2_keyAt : GoodIn wsX0_finishRow wsX2_keyAt := goodIn_r _ [51, 17, 18, 19, 15, 20, 21, 22, 23, 24, 70] (by decide +kernel) (by decide +kernel)
set_option maxRecDepth 20000 in
theorem gX0_finishRow_X2_keyAt : GoodIn wsX0_finishRow (wsV RX0 83 RX2 yX2_keyAt wsX2_keyAt) := goodIn_app (goodIn_of _ (by decide +kernel)) ggX0_finishRow_X2_keyAt
set_option maxRecDepth 20000 in
theorem ggX0_finishRow_X6_keyFor : GoodIn wsX0_finishRow wsX6_keyFor := goodIn_r _ [56, 57, 58, 59, 60, 55, 61, 73, 74, 75, 76, 77] (by decide +kernel) (by decide +kernel)
set_option maxRecDepth 20000 in
theorem gX0_finishRow_X6_keyFor : GoodIn wsX0_finishRow (wsV RX0 103 RX6 yX6_keyFor wsX6_keyFor) := goodIn_app (goodIn_of _ (by decide +kernel)) ggX0_finishRow_X6_keyFor
theorem dX0_finishRow_0 : decode cX0_finishRow 0 = .ok (.aload_n 2, 1) := by decide +kernel
theorem dX0_finishRow_1 : decode cX0_finishRow 1 = .ok (.iload_n 3, 1) := by decide +kernel
theorem dX0_finishRow_2 : decode cX0_finishRow 2 = .ok (.iconst 1, 1) := by decide +kernel
theorem dX0_finishRow_3 : decode cX0_finishRow 3 = .ok (.invokevirtual 79, 3) := by decide +kernel
theorem dX0_finishRow_6 : decode cX0_finishRow 6 = .ok (.istore 4, 2) := by decide +kernel
theorem dX0_finishRow_8 : decode cX0_finishRow 8 = .ok (.aload_n 0, 1) := by decide +kernel
theorem dX0_finishRow_9 : decode cX0_finishRow 9 = .ok (.getfield 69, 3) := by decide +kernel
theorem dX0_finishRow_12 : decode cX0_finishRow 12 = .ok (.iload 4, 2) := by decide +kernel
theorem dX0_finishRow_14 : decode cX0_finishRow 14 = .ok (.invokevirtual 73, 3) := by decide +kernel
theorem dX0_finishRow_17 : decode cX0_finishRow 17 = .ok (.ifCond .eq 7, 3) := by decide +kernel
theorem dX0_finishRow_20 : decode cX0_finishRow 20 = .ok (.iconst 1, 1) := by decide +kernel
theorem dX0_finishRow_21 : decode cX0_finishRow 21 = .ok (.goto 4, 3) := by decide +kernel
theorem dX0_finishRow_24 : decode cX0_finishRow 24 = .ok (.iconst 0, 1) := by decide +kernel
theorem dX0_finishRow_25 : decode cX0_finishRow 25 = .ok (.istore 5, 2) := by decide +kernel
theorem dX0_finishRow_27 : decode cX0_finishRow 27 = .ok (.aload_n 2, 1) := by decide +kernel
theorem dX0_finishRow_28 : decode cX0_finishRow 28 = .ok (.iload_n 3, 1) := by decide +kernel
theorem dX0_finishRow_29 : decode cX0_finishRow 29 = .ok (.iconst 3, 1) := by decide +kernel
theorem dX0_finishRow_30 : decode cX0_finishRow 30 = .ok (.aload_n 2, 1) := by decide +kernel
theorem dX0_finishRow_31 : decode cX0_finishRow 31 = .ok (.iload_n 3, 1) := by decide +kernel
theorem dX0_finishRow_32 : decode cX0_finishRow 32 = .ok (.invokestatic 99, 3) := by decide +kernel
theorem dX0_finishRow_35 : decode cX0_finishRow 35 = .ok (.iload 5, 2) := by decide +kernel
theorem dX0_finishRow_37 : decode cX0_finishRow 37 = .ok (.iadd, 1) := by decide +kernel
theorem dX0_finishRow_38 : decode cX0_finishRow 38 = .ok (.invokevirtual 65, 3) := by decide +kernel
theorem dX0_finishRow_41 : decode cX0_finishRow 41 = .ok (.aload_n 2, 1) := by decide +kernel
theorem dX0_finishRow_42 : decode cX0_finishRow 42 = .ok (.iload_n 3, 1) := by decide +kernel
theorem dX0_finishRow_43 : decode cX0_finishRow 43 = .ok (.iconst 4, 1) := by decide +kernel
theorem dX0_finishRow_44 : decode cX0_finishRow 44 = .ok (.aload_n 1, 1) := by decide +kernel
theorem dX0_finishRow_45 : decode cX0_finishRow 45 = .ok (.aload_n 0, 1) := by decide +kernel
theorem dX0_finishRow_46 : decode cX0_finishRow 46 = .ok (.getfield 69, 3) := by decide +kernel
theorem dX0_finishRow_49 : decode cX0_finishRow 49 = .ok (.iload 4, 2) := by decide +kernel
theorem dX0_finishRow_51 : decode cX0_finishRow 51 = .ok (.invokevirtual 83, 3) := by decide +kernel
theorem dX0_finishRow_54 : decode cX0_finishRow 54 = .ok (.invokevirtual 103, 3) := by decide +kernel
theorem dX0_finishRow_57 : decode cX0_finishRow 57 = .ok (.invokevirtual 65, 3) := by decide +kernel
theorem dX0_finishRow_60 : decode cX0_finishRow 60 = .ok (.return_, 1) := by decide +kernel
set_option maxRecDepth 20000 in
theorem ggX0_bareWidth_X3_unlikeStarts : GoodIn wsX0_bareWidth wsX3_unlikeStarts := goodIn_r _ [5, 6, 7, 8, 4, 9, 10, 11, 12, 13, 14, 15, 30, 31] (by decide +kernel) (by decide +kernel)
set_option maxRecDepth 20000 in
theorem gX0_bareWidth_X3_unlikeStarts : GoodIn wsX0_bareWidth (wsV RX0 106 RX3 yX3_unlikeStarts wsX3_unlikeStarts) := goodIn_app (goodIn_of _ (by decide +kernel)) ggX0_bareWidth_X3_unlikeStarts
set_option maxRecDepth 20000 in
theorem ggX0_bareWidth_X4_figure : GoodIn wsX0_bareWidth wsX4_figure := goodIn_r _ [20, 21, 22, 23, 24, 19, 25, 26, 27, 28, 29] (by decide +kernel) (by decide +kernel)
set_option maxRecDepth 20000 in
theorem gX0_bareWidth_X4_figure : GoodIn wsX0_bareWidth (wsV RX0 79 RX4 yX4_figure wsX4_figure) := goodIn_app (goodIn_of _ (by decide +kernel)) ggX0_bareWidth_X4_figure
theorem dX0_bareWidth_0 : decode cX0_bareWidth 0 = .ok (.aload_n 0, 1) := by decide +kernel
theorem dX0_bareWidth_1 : decode cX0_bareWidth 1 = .ok (.getfield 86, 3) := by decide +kernel
theorem dX0_bareWidth_4 : decode cX0_bareWidth 4 = .ok (.iload_n 1, 1) := by decide +kernel
theorem dX0_bareWidth_5 : decode cX0_bareWidth 5 = .ok (.invokevirtual 106, 3) := by decide +kernel
theorem dX0_bareWidth_8 : decode cX0_bareWidth 8 = .ok (.istore_n 2, 1) := by decide +kernel
theorem dX0_bareWidth_9 : decode cX0_bareWidth 9 = .ok (.aload_n 0, 1) := by decide +kernel
theorem dX0_bareWidth_10 : decode cX0_bareWidth 10 = .ok (.iload_n 1, 1) := by decide +kernel
theorem dX0_bareWidth_11 : decode cX0_bareWidth 11 = .ok (.iconst 0, 1) := by decide +kernel
theorem dX0_bareWidth_12 : decode cX0_bareWidth 12 = .ok (.invokevirtual 79, 3) := by decide +kernel
theorem dX0_bareWidth_15 : decode cX0_bareWidth 15 = .ok (.tableswitch 39 0 2 #[25, 37, 29], 25) := by decide +kernel
theorem dX0_bareWidth_40 : decode cX0_bareWidth 40 = .ok (.iconst 1, 1) := by decide +kernel
theorem dX0_bareWidth_41 : decode cX0_bareWidth 41 = .ok (.iload_n 2, 1) := by decide +kernel
theorem dX0_bareWidth_42 : decode cX0_bareWidth 42 = .ok (.iadd, 1) := by decide +kernel
theorem dX0_bareWidth_43 : decode cX0_bareWidth 43 = .ok (.ireturn, 1) := by decide +kernel
theorem dX0_bareWidth_44 : decode cX0_bareWidth 44 = .ok (.iconst 1, 1) := by decide +kernel
theorem dX0_bareWidth_45 : decode cX0_bareWidth 45 = .ok (.iload_n 2, 1) := by decide +kernel
theorem dX0_bareWidth_46 : decode cX0_bareWidth 46 = .ok (.iconst 1, 1) := by decide +kernel
theorem dX0_bareWidth_47 : decode cX0_bareWidth 47 = .ok (.iadd, 1) := by decide +kernel
theorem dX0_bareWidth_48 : decode cX0_bareWidth 48 = .ok (.iconst 2, 1) := by decide +kernel
theorem dX0_bareWidth_49 : decode cX0_bareWidth 49 = .ok (.idiv, 1) := by decide +kernel
theorem dX0_bareWidth_50 : decode cX0_bareWidth 50 = .ok (.iadd, 1) := by decide +kernel
theorem dX0_bareWidth_51 : decode cX0_bareWidth 51 = .ok (.ireturn, 1) := by decide +kernel
theorem dX0_bareWidth_52 : decode cX0_bareWidth 52 = .ok (.iconst 2, 1) := by decide +kernel
theorem dX0_bareWidth_53 : decode cX0_bareWidth 53 = .ok (.ireturn, 1) := by decide +kernel
theorem dX0_bareWidth_54 : decode cX0_bareWidth 54 = .ok (.iconst 4, 1) := by decide +kernel
theorem dX0_bareWidth_55 : decode cX0_bareWidth 55 = .ok (.ireturn, 1) := by decide +kernel
theorem kX0_bareWidth_86 : Cond.fieldLinkNest RX0 86 (TX4 1).1 (TX4 1).2.1 (TX4 1).2.2.1 RX7 ∈ q_nest := by decide +kernel
theorem iX0_bareWidth_X4 : ∀ w ∈ u_ws RX4 TX4 3, w ∈ wsX0_bareWidth := by decide +kernel
set_option maxHeartbeats 4000000 in
set_option maxRecDepth 100000 in
theorem RX0_bareWidth (l : Launch) (D : va_G) (g : q_A) (S : q_S) (a0 : Nat) (x1 : Int32) (Q : Int32 → q_S → Prop) (h : wX0_bareWidth a0 x1 Q S) : q_Mi l yX0_bareWidth wsX0_bareWidth rmX0_bareWidth D g [.ref a0, .int x1] S Q := by
  refine q_Mi.of (cc := cX0_bareWidth) (nL := 3) (rt := .int) (by decide +kernel) rfl (Nat.le_of_ble_eq_true rfl) rfl ?_
  intro p e s m args below meth c ls A C hr hnm hp hl
  have C : q_X p s m args meth c cX0_bareWidth 3 RX0 wsX0_bareWidth D g A := C
  have hx := C.1
  have hb := C.2.1
  have hl : q_l ls 3 [(0, .ref a0), (1, .int x1)] := hl
  unfold wX0_bareWidth at h
  refine lv_aload_n hx hb dX0_bareWidth_0 rfl (q_at hl 0 rfl) ?_
  refine q_nGR C hp h rfl iX0_bareWidth_X4 (by decide) kX0_bareWidth_86 dX0_bareWidth_1 (fun r_1 h => ?_)
  refine lv_iload_n hx hb dX0_bareWidth_4 rfl (q_at hl 1 rfl) ?_
  refine q_finI0 C hp (q_runV (As := [.int x1]) (rest := []) C hp (RX3_unlikeStarts l D g _ r_1 x1 _ h _) (cwV 1 C.2.2.2.2.1 gX0_bareWidth_X3_unlikeStarts rfl rfl rfl (by decide +kernel) ⟨(Nat.le_of_ble_eq_true rfl), (Nat.le_of_ble_eq_true rfl)⟩) h.1 rfl rfl hl.1.1 rfl (Nat.le_of_ble_eq_true rfl) dX0_bareWidth_5 ⟨(Nat.le_of_ble_eq_true rfl), (Nat.le_of_ble_eq_true rfl)⟩) rfl rfl (fun v_3 S_2 H locs h hp => ?_)
  refine q_istn (lv' := [(2, .int v_3), (0, .ref a0), (1, .int x1)]) hx hb dX0_bareWidth_8 rfl hl (by decide) rfl (fun ls hl => ?_)
  refine lv_aload_n hx hb dX0_bareWidth_9 rfl (q_at hl 1 rfl) ?_
  refine lv_iload_n hx hb dX0_bareWidth_10 rfl (q_at hl 2 rfl) ?_
  refine lv_iconst (v := 0) hx hb dX0_bareWidth_11 (by decide) ?_
  refine q_finI0 C hp (q_runV (As := [.int x1, .int (0 : Int32)]) (rest := []) C hp (RX4_figure l D g _ a0 x1 (0 : Int32) _ h _) (cwV 2 C.2.2.2.2.1 gX0_bareWidth_X4_figure rfl rfl rfl (by decide +kernel) ⟨(Nat.le_of_ble_eq_true rfl), (Nat.le_of_ble_eq_true rfl)⟩) h.1 rfl rfl hl.1.1 rfl (Nat.le_of_ble_eq_true rfl) dX0_bareWidth_12 ⟨(Nat.le_of_ble_eq_true rfl), (Nat.le_of_ble_eq_true rfl)⟩) rfl rfl (fun v_5 S_4 H locs h hp => ?_)
  by_cases hout : (v_5).toInt < 0 ∨ 2 < (v_5).toInt
  · replace h := h.1 hout
    refine lv_tableOut (tgt := 54) hx hb dX0_bareWidth_15 hout (by decide) ?_
    refine lv_iconst (v := 4) hx hb dX0_bareWidth_54 (by decide) ?_
    exact q_iret C hp hr h dX0_bareWidth_55
  · have hc : (v_5).toInt = 0 ∨ (v_5).toInt = 1 ∨ (v_5).toInt = 2 := by omega
    rcases hc with hc | hc | hc
    · replace h := h.2.1 hc
      refine lv_tableIn (off := 25) (tgt := 40) hx hb dX0_bareWidth_15 (by omega) (by omega) (by rw [hc]; rfl) (by decide) ?_
      refine lv_iconst (v := 1) hx hb dX0_bareWidth_40 (by decide) ?_
      refine lv_iload_n hx hb dX0_bareWidth_41 rfl (q_at hl 0 rfl) ?_
      refine lv_iadd hx hb dX0_bareWidth_42 ?_
      exact q_iret C hp hr h dX0_bareWidth_43
    · replace h := h.2.2.1 hc
      refine lv_tableIn (off := 37) (tgt := 52) hx hb dX0_bareWidth_15 (by omega) (by omega) (by rw [hc]; rfl) (by decide) ?_
      refine lv_iconst (v := 2) hx hb dX0_bareWidth_52 (by decide) ?_
      exact q_iret C hp hr h dX0_bareWidth_53
    · replace h := h.2.2.2 hc
      refine lv_tableIn (off := 29) (tgt := 44) hx hb dX0_bareWidth_15 (by omega) (by omega) (by rw [hc]; rfl) (by decide) ?_
      refine lv_iconst (v := 1) hx hb dX0_bareWidth_44 (by decide) ?_
      refine lv_iload_n hx hb dX0_bareWidth_45 rfl (q_at hl 0 rfl) ?_
      refine lv_iconst (v := 1) hx hb dX0_bareWidth_46 (by decide) ?_
      refine lv_iadd hx hb dX0_bareWidth_47 ?_
      refine lv_iconst (v := 2) hx hb dX0_bareWidth_48 (by decide) ?_
      refine lv_idiv hx hb dX0_bareWidth_49 (by decide) ?_
      refine lv_iadd hx hb dX0_bareWidth_50 ?_
      exact q_iret C hp hr h dX0_bareWidth_51
theorem kX0_finishRow_69 : Cond.fieldLinkNest RX0 69 (TX5 1).1 (TX5 1).2.1 (TX5 1).2.2.1 RX7 ∈ q_nest := by decide +kernel
theorem iX0_finishRow_X5 : ∀ w ∈ u_ws RX5 TX5 5, w ∈ wsX0_finishRow := by decide +kernel
set_option maxHeartbeats 4000000 in
set_option maxRecDepth 100000 in
theorem RX0_finishRow (l : Launch) (D : va_G) (g : q_A) (S : q_S) (a0 : Nat) (a1 : Nat) (a2 : Nat) (x3 : Int32) (Q : q_S → Prop) (h : wX0_finishRow a0 a1 a2 x3 Q S) : q_Mv l yX0_finishRow wsX0_finishRow rmX0_finishRow D g [.ref a0, .ref a1, .ref a2, .int x3] S Q := by
  refine q_Mv.of (cc := cX0_finishRow) (nL := 6) (by decide +kernel) rfl (Nat.le_of_ble_eq_true rfl) rfl ?_
  intro p e s m args below meth c ls A C hr hnm hp hl
  have C : q_X p s m args meth c cX0_finishRow 6 RX0 wsX0_finishRow D g A := C
  have hx := C.1
  have hb := C.2.1
  have hl : q_l ls 6 [(0, .ref a0), (1, .ref a1), (2, .ref a2), (3, .int x3)] := hl
  have j25 : ∀ (a0 : Nat) (a1 : Nat) (a2 : Nat) (x3 : Int32) (x4 : Int32) (y0 : Int32) (S : q_S) (H : Heap) (locs : List Loc) (ls : Array Slot), wX0_finishRow_b25 Q a0 a1 a2 x3 x4 y0 S → q_P D g A s.heap S H locs → q_l ls 6 [(0, .ref a0), (1, .ref a1), (2, .ref a2), (3, .int x3), (4, .int x4)] → W p l e rmX0_finishRow s m args below meth c H locs 0 0 (MQ below (va_Qv Q (q_B D g A) A) args s rmX0_finishRow.cells rmX0_finishRow.slots A) (F0 m 25 ls [.int y0]) := by
    intro a0 a1 a2 x3 x4 y0 S H locs ls h hp hl
    unfold wX0_finishRow_b25 at h
    refine q_ist (lv' := [(5, .int y0), (0, .ref a0), (1, .ref a1), (2, .ref a2), (3, .int x3), (4, .int x4)]) hx hb dX0_finishRow_25 hl (by decide) rfl (fun ls hl => ?_)
    refine lv_aload_n hx hb dX0_finishRow_27 rfl (q_at hl 3 rfl) ?_
    refine lv_iload_n hx hb dX0_finishRow_28 rfl (q_at hl 4 rfl) ?_
    refine lv_iconst (v := 3) hx hb dX0_finishRow_29 (by decide) ?_
    refine lv_aload_n hx hb dX0_finishRow_30 rfl (q_at hl 3 rfl) ?_
    refine lv_iload_n hx hb dX0_finishRow_31 rfl (q_at hl 4 rfl) ?_
    refine q_finI0 C hp (q_runS (As := [.ref a2, .int x3]) (rest := [.int (3 : Int32), .int x3, .ref a2]) C hp (RX0_bareWidth l D g _ a2 x3 _ h _) (va_cwS 2 C.2.2.2.2.1 gX0_finishRow_X0_bareWidth rfl rfl rfl (by decide +kernel) ⟨(Nat.le_of_ble_eq_true rfl), (Nat.le_of_ble_eq_true rfl)⟩) rfl hl.1.1 rfl (Nat.le_of_ble_eq_true rfl) dX0_finishRow_32 ⟨(Nat.le_of_ble_eq_true rfl), (Nat.le_of_ble_eq_true rfl)⟩) rfl rfl (fun v_2 S_1 H locs h hp => ?_)
    refine lv_iload hx hb dX0_finishRow_35 (q_at hl 0 rfl) ?_
    refine lv_iadd hx hb dX0_finishRow_37 ?_
    refine q_finV0 C hp (q_runV (As := [.int x3, .int (3 : Int32), .int (v_2 + y0)]) (rest := []) C hp (RX4_setFigure l D g _ a2 x3 (3 : Int32) (v_2 + y0) _ h _) (cwV 3 C.2.2.2.2.1 gX0_finishRow_X4_setFigure rfl rfl rfl (by decide +kernel) ⟨(Nat.le_of_ble_eq_true rfl), (Nat.le_of_ble_eq_true rfl)⟩) h.1 rfl rfl hl.1.1 rfl (Nat.le_of_ble_eq_true rfl) dX0_finishRow_38 ⟨(Nat.le_of_ble_eq_true rfl), (Nat.le_of_ble_eq_true rfl)⟩) rfl rfl (fun S_3 H locs h hp => ?_)
    refine lv_aload_n hx hb dX0_finishRow_41 rfl (q_at hl 3 rfl) ?_
    refine lv_iload_n hx hb dX0_finishRow_42 rfl (q_at hl 4 rfl) ?_
    refine lv_iconst (v := 4) hx hb dX0_finishRow_43 (by decide) ?_
    refine lv_aload_n hx hb dX0_finishRow_44 rfl (q_at hl 2 rfl) ?_
    refine lv_aload_n hx hb dX0_finishRow_45 rfl (q_at hl 1 rfl) ?_
    refine q_nGR C hp h rfl iX0_finishRow_X5 (by decide) kX0_finishRow_69 dX0_finishRow_46 (fun r_4 h => ?_)
    refine lv_iload hx hb dX0_finishRow_49 (q_at hl 5 rfl) ?_
    refine q_finI0 C hp (q_runV (As := [.int x4]) (rest := [.ref a1, .int (4 : Int32), .int x3, .ref a2]) C hp (RX2_keyAt l D g _ r_4 x4 _ h _) (cwV 1 C.2.2.2.2.1 gX0_finishRow_X2_keyAt rfl rfl rfl (by decide +kernel) ⟨(Nat.le_of_ble_eq_true rfl), (Nat.le_of_ble_eq_true rfl)⟩) h.1 rfl rfl hl.1.1 rfl (Nat.le_of_ble_eq_true rfl) dX0_finishRow_51 ⟨(Nat.le_of_ble_eq_true rfl), (Nat.le_of_ble_eq_true rfl)⟩) rfl rfl (fun v_6 S_5 H locs h hp => ?_)
    refine q_finI0 C hp (q_runV (As := [.int v_6]) (rest := [.int (4 : Int32), .int x3, .ref a2]) C hp (RX6_keyFor l D g _ a1 v_6 _ h _) (cwV 1 C.2.2.2.2.1 gX0_finishRow_X6_keyFor rfl rfl rfl (by decide +kernel) ⟨(Nat.le_of_ble_eq_true rfl), (Nat.le_of_ble_eq_true rfl)⟩) h.1 rfl rfl hl.1.1 rfl (Nat.le_of_ble_eq_true rfl) dX0_finishRow_54 ⟨(Nat.le_of_ble_eq_true rfl), (Nat.le_of_ble_eq_true rfl)⟩) rfl rfl (fun v_8 S_7 H locs h hp => ?_)
    refine q_finV0 C hp (q_runV (As := [.int x3, .int (4 : Int32), .int v_8]) (rest := []) C hp (RX4_setFigure l D g _ a2 x3 (4 : Int32) v_8 _ h _) (cwV 3 C.2.2.2.2.1 gX0_finishRow_X4_setFigure rfl rfl rfl (by decide +kernel) ⟨(Nat.le_of_ble_eq_true rfl), (Nat.le_of_ble_eq_true rfl)⟩) h.1 rfl rfl hl.1.1 rfl (Nat.le_of_ble_eq_true rfl) dX0_finishRow_57 ⟨(Nat.le_of_ble_eq_true rfl), (Nat.le_of_ble_eq_true rfl)⟩) rfl rfl (fun S_9 H locs h hp => ?_)
    exact q_vret C hp hr h dX0_finishRow_60
  unfold wX0_finishRow at h
  refine lv_aload_n hx hb dX0_finishRow_0 rfl (q_at hl 2 rfl) ?_
  refine lv_iload_n hx hb dX0_finishRow_1 rfl (q_at hl 3 rfl) ?_
  refine lv_iconst (v := 1) hx hb dX0_finishRow_2 (by decide) ?_
  refine q_finI0 C hp (q_runV (As := [.int x3, .int (1 : Int32)]) (rest := []) C hp (RX4_figure l D g _ a2 x3 (1 : Int32) _ h _) (cwV 2 C.2.2.2.2.1 gX0_finishRow_X4_figure rfl rfl rfl (by decide +kernel) ⟨(Nat.le_of_ble_eq_true rfl), (Nat.le_of_ble_eq_true rfl)⟩) h.1 rfl rfl hl.1.1 rfl (Nat.le_of_ble_eq_true rfl) dX0_finishRow_3 ⟨(Nat.le_of_ble_eq_true rfl), (Nat.le_of_ble_eq_true rfl)⟩) rfl rfl (fun v_11 S_10 H locs h hp => ?_)
  refine q_ist (lv' := [(4, .int v_11), (0, .ref a0), (1, .ref a1), (2, .ref a2), (3, .int x3)]) hx hb dX0_finishRow_6 hl (by decide) rfl (fun ls hl => ?_)
  refine lv_aload_n hx hb dX0_finishRow_8 rfl (q_at hl 1 rfl) ?_
  refine q_nGR C hp h rfl iX0_finishRow_X5 (by decide) kX0_finishRow_69 dX0_finishRow_9 (fun r_12 h => ?_)
  refine lv_iload hx hb dX0_finishRow_12 (q_at hl 0 rfl) ?_
  refine q_finI0 C hp (q_runV (As := [.int v_11]) (rest := []) C hp (RX2_isNeeded l D g _ r_12 v_11 _ h _) (cwV 1 C.2.2.2.2.1 gX0_finishRow_X2_isNeeded rfl rfl rfl (by decide +kernel) ⟨(Nat.le_of_ble_eq_true rfl), (Nat.le_of_ble_eq_true rfl)⟩) h.1 rfl rfl hl.1.1 rfl (Nat.le_of_ble_eq_true rfl) dX0_finishRow_14 ⟨(Nat.le_of_ble_eq_true rfl), (Nat.le_of_ble_eq_true rfl)⟩) rfl rfl (fun v_14 S_13 H locs h hp => ?_)
  refine lv_if_eq (tgt := 24) hx hb dX0_finishRow_17 (by decide) (fun c_15 => ?_) (fun c_15 => ?_)
  · replace h := h.1 c_15
    refine lv_iconst (v := 0) hx hb dX0_finishRow_24 (by decide) ?_
    exact j25 a0 a1 a2 x3 v_11 (0 : Int32) _ _ _ _ h hp (q_sub hl [1, 2, 3, 4, 0] rfl)
  · replace h := h.2 c_15
    refine lv_iconst (v := 1) hx hb dX0_finishRow_20 (by decide) ?_
    refine lv_goto (tgt := 25) hx hb dX0_finishRow_21 (by decide) ?_
    exact j25 a0 a1 a2 x3 v_11 (1 : Int32) _ _ _ _ h hp (q_sub hl [1, 2, 3, 4, 0] rfl)
theorem kX0_restLength_14 : Cond.fieldLinkNest RX0 14 (TX6 1).1 (TX6 1).2.1 (TX6 1).2.2.1 RX7 ∈ q_nest := by decide +kernel
theorem kX0_restLength_26 : Cond.fieldLinkNest RX0 26 (TX5 3).1 (TX5 3).2.1 (TX5 3).2.2.1 RX7 ∈ q_nest := by decide +kernel
theorem kX0_restLength_69 : Cond.fieldLinkNest RX0 69 (TX5 1).1 (TX5 1).2.1 (TX5 1).2.2.1 RX7 ∈ q_nest := by decide +kernel
theorem iX0_restLength_X5 : ∀ w ∈ u_ws RX5 TX5 5, w ∈ wsX0_restLength := by decide +kernel
theorem iX0_restLength_X6 : ∀ w ∈ u_ws RX6 TX6 5, w ∈ wsX0_restLength := by decide +kernel
set_option maxHeartbeats 4000000 in
set_option maxRecDepth 100000 in
theorem RX0_restLength (l : Launch) (D : va_G) (g : q_A) (S : q_S) (a0 : Nat) (a1 : Nat) (x2 : Int32) (Q : Int32 → q_S → Prop) (h : wX0_restLength a0 a1 x2 Q S) : q_Mi l yX0_restLength wsX0_restLength rmX0_restLength D g [.ref a0, .ref a1, .int x2] S Q := by
  refine q_Mi.of (cc := cX0_restLength) (nL := 4) (rt := .int) (by decide +kernel) rfl (Nat.le_of_ble_eq_true rfl) rfl ?_
  intro p e s m args below meth c ls A C hr hnm hp hl
  have C : q_X p s m args meth c cX0_restLength 4 RX0 wsX0_restLength D g A := C
  have hx := C.1
  have hb := C.2.1
  have hl : q_l ls 4 [(0, .ref a0), (1, .ref a1), (2, .int x2)] := hl
  have j49 : ∀ (x2 : Int32) (x3 : Int32) (S : q_S) (H : Heap) (locs : List Loc) (ls : Array Slot), wX0_restLength_b49 Q x2 x3 S → q_P D g A s.heap S H locs → q_l ls 4 [(2, .int x2), (3, .int x3)] → W p l e rmX0_restLength s m args below meth c H locs 0 0 (MQ below (va_Qi Q (q_B D g A) A) args s rmX0_restLength.cells rmX0_restLength.slots A) (F0 m 49 ls []) := by
    intro x2 x3 S H locs ls h hp hl
    unfold wX0_restLength_b49 at h
    refine lv_iload_n hx hb dX0_restLength_49 rfl (q_at hl 1 rfl) ?_
    refine lv_iload_n hx hb dX0_restLength_50 rfl (q_at hl 0 rfl) ?_
    refine lv_isub hx hb dX0_restLength_51 ?_
    exact q_iret C hp hr h dX0_restLength_52
  have j4 : ∀ (n : Nat), ∀ (a0 : Nat) (a1 : Nat) (x2 : Int32) (x3 : Int32) (S : q_S) (H : Heap) (locs : List Loc) (ls : Array Slot), lX0_restLength_b4 Q n a0 a1 x2 x3 S → q_P D g A s.heap S H locs → q_l ls 4 [(0, .ref a0), (1, .ref a1), (2, .int x2), (3, .int x3)] → W p l e rmX0_restLength s m args below meth c H locs 0 0 (MQ below (va_Qi Q (q_B D g A) A) args s rmX0_restLength.cells rmX0_restLength.slots A) (F0 m 4 ls []) := by
    intro n
    induction n with
    | zero => intro a0 a1 x2 x3 S H locs ls h; exact absurd h (fun h => h)
    | succ n ih4 =>
      intro a0 a1 x2 x3 S H locs ls h hp hl
      have h : wX0_restLength_b4 Q (lX0_restLength_b4 Q n) a0 a1 x2 x3 S := h
      unfold wX0_restLength_b4 at h
      refine lv_iload_n hx hb dX0_restLength_4 rfl (q_at hl 3 rfl) ?_
      refine lv_aload_n hx hb dX0_restLength_5 rfl (q_at hl 0 rfl) ?_
      refine q_nGI C hp h rfl iX0_restLength_X5 (by decide) kX0_restLength_26 dX0_restLength_6 (fun v_1 h => ?_)
      refine lv_icmp_ge (tgt := 49) hx hb dX0_restLength_9 (by decide) (fun c_2 => ?_) (fun c_2 => ?_)
      · replace h := h.1 c_2
        exact j49 x2 x3 _ _ _ _ h hp (q_sub hl [2, 3] rfl)
      · replace h := h.2 c_2
        refine lv_aload_n hx hb dX0_restLength_12 rfl (q_at hl 1 rfl) ?_
        refine q_nGR C hp h rfl iX0_restLength_X6 (by decide) kX0_restLength_14 dX0_restLength_13 (fun r_3 h => ?_)
        refine lv_iload_n hx hb dX0_restLength_16 rfl (q_at hl 3 rfl) ?_
        refine q_finI0 C hp (q_runV (As := [.int x3]) (rest := []) C hp (RX3_size l D g _ r_3 x3 _ h _) (cwV 1 C.2.2.2.2.1 gX0_restLength_X3_size rfl rfl rfl (by decide +kernel) ⟨(Nat.le_of_ble_eq_true rfl), (Nat.le_of_ble_eq_true rfl)⟩) h.1 rfl rfl hl.1.1 rfl (Nat.le_of_ble_eq_true rfl) dX0_restLength_17 ⟨(Nat.le_of_ble_eq_true rfl), (Nat.le_of_ble_eq_true rfl)⟩) rfl rfl (fun v_5 S_4 H locs h hp => ?_)
        refine lv_if_ne (tgt := 49) hx hb dX0_restLength_20 (by decide) (fun c_6 => ?_) (fun c_6 => ?_)
        · replace h := h.1 c_6
          exact j49 x2 x3 _ _ _ _ h hp (q_sub hl [2, 3] rfl)
        · replace h := h.2 c_6
          refine lv_aload_n hx hb dX0_restLength_23 rfl (q_at hl 0 rfl) ?_
          refine q_nGR C hp h rfl iX0_restLength_X5 (by decide) kX0_restLength_69 dX0_restLength_24 (fun r_7 h => ?_)
          refine lv_iload_n hx hb dX0_restLength_27 rfl (q_at hl 3 rfl) ?_
          refine q_finI0 C hp (q_runV (As := [.int x3]) (rest := []) C hp (RX2_isNeeded l D g _ r_7 x3 _ h _) (cwV 1 C.2.2.2.2.1 gX0_restLength_X2_isNeeded rfl rfl rfl (by decide +kernel) ⟨(Nat.le_of_ble_eq_true rfl), (Nat.le_of_ble_eq_true rfl)⟩) h.1 rfl rfl hl.1.1 rfl (Nat.le_of_ble_eq_true rfl) dX0_restLength_28 ⟨(Nat.le_of_ble_eq_true rfl), (Nat.le_of_ble_eq_true rfl)⟩) rfl rfl (fun v_9 S_8 H locs h hp => ?_)
          refine lv_if_ne (tgt := 49) hx hb dX0_restLength_31 (by decide) (fun c_10 => ?_) (fun c_10 => ?_)
          · replace h := h.1 c_10
            exact j49 x2 x3 _ _ _ _ h hp (q_sub hl [2, 3] rfl)
          · replace h := h.2 c_10
            refine lv_aload_n hx hb dX0_restLength_34 rfl (q_at hl 0 rfl) ?_
            refine lv_aload_n hx hb dX0_restLength_35 rfl (q_at hl 1 rfl) ?_
            refine lv_iload_n hx hb dX0_restLength_36 rfl (q_at hl 3 rfl) ?_
            refine q_finQ0 C hp (q_runV (As := [.ref a1, .int x3]) (rest := []) C hp (RX5_cueFor l D g _ a0 a1 x3 _ h _) (cwV 2 C.2.2.2.2.1 gX0_restLength_X5_cueFor rfl rfl rfl (by decide +kernel) ⟨(Nat.le_of_ble_eq_true rfl), (Nat.le_of_ble_eq_true rfl)⟩) h.1 rfl rfl hl.1.1 rfl (Nat.le_of_ble_eq_true rfl) dX0_restLength_37 ⟨(Nat.le_of_ble_eq_true rfl), (Nat.le_of_ble_eq_true rfl)⟩) rfl rfl (fun o_12 S_11 H locs h hp => ?_)
            refine q_ifnonnull (o := o_12) (tgt := 49) hx hb dX0_restLength_40 (by decide) (fun c_14 => ?_) (fun a_13 c_14 => ?_)
            · have hc_14 := h.1 c_14
              have lc_14 := hl
              have pc_14 := hp
              subst c_14
              have h := hc_14
              have hl := lc_14
              have hp := pc_14
              refine q_inc (x := x3) (v := (x3 + (1 : Int32))) (lv' := [(3, .int (x3 + (1 : Int32))), (0, .ref a0), (1, .ref a1), (2, .int x2)]) hx hb dX0_restLength_43 hl (k := 3) rfl rfl (by decide) rfl (fun ls hl => ?_)
              refine lv_goto (tgt := 4) hx hb dX0_restLength_46 (by decide) ?_
              exact ih4 a0 a1 x2 (x3 + (1 : Int32)) _ _ _ _ h hp (q_sub hl [1, 2, 3, 0] rfl)
            · have hc_14 := h.2 a_13 c_14
              have lc_14 := hl
              have pc_14 := hp
              subst c_14
              have h := hc_14
              have hl := lc_14
              have hp := pc_14
              exact j49 x2 x3 _ _ _ _ h hp (q_sub hl [2, 3] rfl)
  unfold wX0_restLength at h
  refine lv_iload_n hx hb dX0_restLength_0 rfl (q_at hl 2 rfl) ?_
  refine lv_iconst (v := 1) hx hb dX0_restLength_1 (by decide) ?_
  refine lv_iadd hx hb dX0_restLength_2 ?_
  refine q_istn (lv' := [(3, .int (x2 + (1 : Int32))), (0, .ref a0), (1, .ref a1), (2, .int x2)]) hx hb dX0_restLength_3 rfl hl (by decide) rfl (fun ls hl => ?_)
  exact j4 q_fuel a0 a1 x2 (x2 + (1 : Int32)) _ _ _ _ h hp (q_sub hl [1, 2, 3, 0] rfl)
theorem kX0_writeNotes_14 : Cond.fieldLinkNest RX0 14 (TX6 1).1 (TX6 1).2.1 (TX6 1).2.2.1 RX7 ∈ q_nest := by decide +kernel
theorem kX0_writeNotes_69 : Cond.fieldLinkNest RX0 69 (TX5 1).1 (TX5 1).2.1 (TX5 1).2.2.1 RX7 ∈ q_nest := by decide +kernel
theorem kX0_writeNotes_86 : Cond.fieldLinkNest RX0 86 (TX4 1).1 (TX4 1).2.1 (TX4 1).2.2.1 RX7 ∈ q_nest := by decide +kernel
theorem iX0_writeNotes_X4 : ∀ w ∈ u_ws RX4 TX4 3, w ∈ wsX0_writeNotes := by decide +kernel
theorem iX0_writeNotes_X5 : ∀ w ∈ u_ws RX5 TX5 5, w ∈ wsX0_writeNotes := by decide +kernel
theorem iX0_writeNotes_X6 : ∀ w ∈ u_ws RX6 TX6 5, w ∈ wsX0_writeNotes := by decide +kernel
set_option maxHeartbeats 4000000 in
set_option maxRecDepth 100000 in
theorem RX0_writeNotes (l : Launch) (D : va_G) (g : q_A) (S : q_S) (a0 : Nat) (a1 : Nat) (a2 : Nat) (a3 : Nat) (x4 : Int32) (Q : q_S → Prop) (h : wX0_writeNotes a0 a1 a2 a3 x4 Q S) : q_Mv l yX0_writeNotes wsX0_writeNotes rmX0_writeNotes D g [.ref a0, .ref a1, .ref a2, .ref a3, .int x4] S Q := by
  refine q_Mv.of (cc := cX0_writeNotes) (nL := 9) (by decide +kernel) rfl (Nat.le_of_ble_eq_true rfl) rfl ?_
  intro p e s m args below meth c ls A C hr hnm hp hl
  have C : q_X p s m args meth c cX0_writeNotes 9 RX0 wsX0_writeNotes D g A := C
  have hx := C.1
  have hb := C.2.1
  have hl : q_l ls 9 [(0, .ref a0), (1, .ref a1), (2, .ref a2), (3, .ref a3), (4, .int x4)] := hl
  have j34 : ∀ (n : Nat), ∀ (a1 : Nat) (a2 : Nat) (a3 : Nat) (x4 : Int32) (x5 : Int32) (x6 : Int32) (x7 : Int32) (x8 : Int32) (S : q_S) (H : Heap) (locs : List Loc) (ls : Array Slot), lX0_writeNotes_b34 Q n a1 a2 a3 x4 x5 x6 x7 x8 S → q_P D g A s.heap S H locs → q_l ls 9 [(1, .ref a1), (2, .ref a2), (3, .ref a3), (4, .int x4), (5, .int x5), (6, .int x6), (7, .int x7), (8, .int x8)] → W p l e rmX0_writeNotes s m args below meth c H locs 0 0 (MQ below (va_Qv Q (q_B D g A) A) args s rmX0_writeNotes.cells rmX0_writeNotes.slots A) (F0 m 34 ls []) := by
    intro n
    induction n with
    | zero => intro a1 a2 a3 x4 x5 x6 x7 x8 S H locs ls h; exact absurd h (fun h => h)
    | succ n ih34 =>
      intro a1 a2 a3 x4 x5 x6 x7 x8 S H locs ls h hp hl
      have h : wX0_writeNotes_b34 Q (lX0_writeNotes_b34 Q n) a1 a2 a3 x4 x5 x6 x7 x8 S := h
      unfold wX0_writeNotes_b34 at h
      refine lv_iload hx hb dX0_writeNotes_34 (q_at hl 7 rfl) ?_
      refine lv_iload hx hb dX0_writeNotes_36 (q_at hl 6 rfl) ?_
      refine lv_icmp_ge (tgt := 114) hx hb dX0_writeNotes_38 (by decide) (fun c_1 => ?_) (fun c_1 => ?_)
      · replace h := h.1 c_1
        refine lv_aload_n hx hb dX0_writeNotes_114 rfl (q_at hl 2 rfl) ?_
        refine lv_iload hx hb dX0_writeNotes_115 (q_at hl 3 rfl) ?_
        refine lv_iconst (v := 5) hx hb dX0_writeNotes_117 (by decide) ?_
        refine lv_iload hx hb dX0_writeNotes_118 (q_at hl 6 rfl) ?_
        refine q_finV0 C hp (q_runV (As := [.int x4, .int (5 : Int32), .int x7]) (rest := []) C hp (RX4_setFigure l D g _ a3 x4 (5 : Int32) x7 _ h _) (cwV 3 C.2.2.2.2.1 gX0_writeNotes_X4_setFigure rfl rfl rfl (by decide +kernel) ⟨(Nat.le_of_ble_eq_true rfl), (Nat.le_of_ble_eq_true rfl)⟩) h.1 rfl rfl hl.1.1 rfl (Nat.le_of_ble_eq_true rfl) dX0_writeNotes_120 ⟨(Nat.le_of_ble_eq_true rfl), (Nat.le_of_ble_eq_true rfl)⟩) rfl rfl (fun S_2 H locs h hp => ?_)
        exact q_vret C hp hr h dX0_writeNotes_123
      · replace h := h.2 c_1
        refine lv_aload_n hx hb dX0_writeNotes_41 rfl (q_at hl 2 rfl) ?_
        refine q_nGR C hp h rfl iX0_writeNotes_X4 (by decide) kX0_writeNotes_86 dX0_writeNotes_42 (fun r_3 h => ?_)
        refine lv_iload hx hb dX0_writeNotes_45 (q_at hl 3 rfl) ?_
        refine lv_aload_n hx hb dX0_writeNotes_47 rfl (q_at hl 1 rfl) ?_
        refine q_nGR C hp h rfl iX0_writeNotes_X6 (by decide) kX0_writeNotes_14 dX0_writeNotes_48 (fun r_4 h => ?_)
        refine lv_iload hx hb dX0_writeNotes_51 (q_at hl 4 rfl) ?_
        refine lv_iload hx hb dX0_writeNotes_53 (q_at hl 7 rfl) ?_
        refine lv_iconst (v := 0) hx hb dX0_writeNotes_55 (by decide) ?_
        refine q_finI0 C hp (q_runV (As := [.int x5, .int x8, .int (0 : Int32)]) (rest := [.int x4, .ref r_3]) C hp (RX3_figure l D g _ r_4 x5 x8 (0 : Int32) _ h _) (cwV 3 C.2.2.2.2.1 gX0_writeNotes_X3_figure rfl rfl rfl (by decide +kernel) ⟨(Nat.le_of_ble_eq_true rfl), (Nat.le_of_ble_eq_true rfl)⟩) h.1 rfl rfl hl.1.1 rfl (Nat.le_of_ble_eq_true rfl) dX0_writeNotes_56 ⟨(Nat.le_of_ble_eq_true rfl), (Nat.le_of_ble_eq_true rfl)⟩) rfl rfl (fun v_6 S_5 H locs h hp => ?_)
        refine lv_aload_n hx hb dX0_writeNotes_59 rfl (q_at hl 1 rfl) ?_
        refine q_nGR C hp h rfl iX0_writeNotes_X6 (by decide) kX0_writeNotes_14 dX0_writeNotes_60 (fun r_7 h => ?_)
        refine lv_iload hx hb dX0_writeNotes_63 (q_at hl 4 rfl) ?_
        refine lv_iload hx hb dX0_writeNotes_65 (q_at hl 7 rfl) ?_
        refine lv_iconst (v := 1) hx hb dX0_writeNotes_67 (by decide) ?_
        refine q_finI0 C hp (q_runV (As := [.int x5, .int x8, .int (1 : Int32)]) (rest := [.int v_6, .int x4, .ref r_3]) C hp (RX3_figure l D g _ r_7 x5 x8 (1 : Int32) _ h _) (cwV 3 C.2.2.2.2.1 gX0_writeNotes_X3_figure rfl rfl rfl (by decide +kernel) ⟨(Nat.le_of_ble_eq_true rfl), (Nat.le_of_ble_eq_true rfl)⟩) h.1 rfl rfl hl.1.1 rfl (Nat.le_of_ble_eq_true rfl) dX0_writeNotes_68 ⟨(Nat.le_of_ble_eq_true rfl), (Nat.le_of_ble_eq_true rfl)⟩) rfl rfl (fun v_9 S_8 H locs h hp => ?_)
        refine lv_aload_n hx hb dX0_writeNotes_71 rfl (q_at hl 0 rfl) ?_
        refine lv_aload_n hx hb dX0_writeNotes_72 rfl (q_at hl 1 rfl) ?_
        refine q_nGR C hp h rfl iX0_writeNotes_X6 (by decide) kX0_writeNotes_14 dX0_writeNotes_73 (fun r_10 h => ?_)
        refine lv_iload hx hb dX0_writeNotes_76 (q_at hl 4 rfl) ?_
        refine lv_iload hx hb dX0_writeNotes_78 (q_at hl 7 rfl) ?_
        refine lv_iconst (v := 2) hx hb dX0_writeNotes_80 (by decide) ?_
        refine q_finI0 C hp (q_runV (As := [.int x5, .int x8, .int (2 : Int32)]) (rest := [.ref a1, .int v_9, .int v_6, .int x4, .ref r_3]) C hp (RX3_figure l D g _ r_10 x5 x8 (2 : Int32) _ h _) (cwV 3 C.2.2.2.2.1 gX0_writeNotes_X3_figure rfl rfl rfl (by decide +kernel) ⟨(Nat.le_of_ble_eq_true rfl), (Nat.le_of_ble_eq_true rfl)⟩) h.1 rfl rfl hl.1.1 rfl (Nat.le_of_ble_eq_true rfl) dX0_writeNotes_81 ⟨(Nat.le_of_ble_eq_true rfl), (Nat.le_of_ble_eq_true rfl)⟩) rfl rfl (fun v_12 S_11 H locs h hp => ?_)
        refine q_finI0 C hp (q_runV (As := [.int v_12]) (rest := [.int v_9, .int v_6, .int x4, .ref r_3]) C hp (RX6_pitchFor l D g _ a1 v_12 _ h _) (cwV 1 C.2.2.2.2.1 gX0_writeNotes_X6_pitchFor rfl rfl rfl (by decide +kernel) ⟨(Nat.le_of_ble_eq_true rfl), (Nat.le_of_ble_eq_true rfl)⟩) h.1 rfl rfl hl.1.1 rfl (Nat.le_of_ble_eq_true rfl) dX0_writeNotes_84 ⟨(Nat.le_of_ble_eq_true rfl), (Nat.le_of_ble_eq_true rfl)⟩) rfl rfl (fun v_14 S_13 H locs h hp => ?_)
        refine lv_aload_n hx hb dX0_writeNotes_87 rfl (q_at hl 0 rfl) ?_
        refine lv_aload_n hx hb dX0_writeNotes_88 rfl (q_at hl 1 rfl) ?_
        refine q_nGR C hp h rfl iX0_writeNotes_X6 (by decide) kX0_writeNotes_14 dX0_writeNotes_89 (fun r_15 h => ?_)
        refine lv_iload hx hb dX0_writeNotes_92 (q_at hl 4 rfl) ?_
        refine lv_iload hx hb dX0_writeNotes_94 (q_at hl 7 rfl) ?_
        refine lv_iconst (v := 3) hx hb dX0_writeNotes_96 (by decide) ?_
        refine q_finI0 C hp (q_runV (As := [.int x5, .int x8, .int (3 : Int32)]) (rest := [.ref a1, .int v_14, .int v_9, .int v_6, .int x4, .ref r_3]) C hp (RX3_figure l D g _ r_15 x5 x8 (3 : Int32) _ h _) (cwV 3 C.2.2.2.2.1 gX0_writeNotes_X3_figure rfl rfl rfl (by decide +kernel) ⟨(Nat.le_of_ble_eq_true rfl), (Nat.le_of_ble_eq_true rfl)⟩) h.1 rfl rfl hl.1.1 rfl (Nat.le_of_ble_eq_true rfl) dX0_writeNotes_97 ⟨(Nat.le_of_ble_eq_true rfl), (Nat.le_of_ble_eq_true rfl)⟩) rfl rfl (fun v_17 S_16 H locs h hp => ?_)
        refine lv_iload hx hb dX0_writeNotes_100 (q_at hl 5 rfl) ?_
        refine q_finI0 C hp (q_runV (As := [.int v_17, .int x6]) (rest := [.int v_14, .int v_9, .int v_6, .int x4, .ref r_3]) C hp (RX6_spellingFor l D g _ a1 v_17 x6 _ h _) (cwV 2 C.2.2.2.2.1 gX0_writeNotes_X6_spellingFor rfl rfl rfl (by decide +kernel) ⟨(Nat.le_of_ble_eq_true rfl), (Nat.le_of_ble_eq_true rfl)⟩) h.1 rfl rfl hl.1.1 rfl (Nat.le_of_ble_eq_true rfl) dX0_writeNotes_102 ⟨(Nat.le_of_ble_eq_true rfl), (Nat.le_of_ble_eq_true rfl)⟩) rfl rfl (fun v_19 S_18 H locs h hp => ?_)
        refine q_finV0 C hp (q_runV (As := [.int x4, .int v_6, .int v_9, .int v_14, .int v_19]) (rest := []) C hp (RX3_insert l D g _ r_3 x4 v_6 v_9 v_14 v_19 _ h _) (cwV 5 C.2.2.2.2.1 gX0_writeNotes_X3_insert rfl rfl rfl (by decide +kernel) ⟨(Nat.le_of_ble_eq_true rfl), (Nat.le_of_ble_eq_true rfl)⟩) h.1 rfl rfl hl.1.1 rfl (Nat.le_of_ble_eq_true rfl) dX0_writeNotes_105 ⟨(Nat.le_of_ble_eq_true rfl), (Nat.le_of_ble_eq_true rfl)⟩) rfl rfl (fun S_20 H locs h hp => ?_)
        refine q_inc (x := x8) (v := (x8 + (1 : Int32))) (lv' := [(8, .int (x8 + (1 : Int32))), (1, .ref a1), (2, .ref a2), (3, .ref a3), (4, .int x4), (5, .int x5), (6, .int x6), (7, .int x7)]) hx hb dX0_writeNotes_108 hl (k := 7) rfl rfl (by decide) rfl (fun ls hl => ?_)
        refine lv_goto (tgt := 34) hx hb dX0_writeNotes_111 (by decide) ?_
        exact ih34 a1 a2 a3 x4 x5 x6 x7 (x8 + (1 : Int32)) _ _ _ _ h hp (q_sub hl [1, 2, 3, 4, 5, 6, 7, 0] rfl)
  unfold wX0_writeNotes at h
  refine lv_aload_n hx hb dX0_writeNotes_0 rfl (q_at hl 3 rfl) ?_
  refine lv_iload hx hb dX0_writeNotes_1 (q_at hl 4 rfl) ?_
  refine lv_iconst (v := 1) hx hb dX0_writeNotes_3 (by decide) ?_
  refine q_finI0 C hp (q_runV (As := [.int x4, .int (1 : Int32)]) (rest := []) C hp (RX4_figure l D g _ a3 x4 (1 : Int32) _ h _) (cwV 2 C.2.2.2.2.1 gX0_writeNotes_X4_figure rfl rfl rfl (by decide +kernel) ⟨(Nat.le_of_ble_eq_true rfl), (Nat.le_of_ble_eq_true rfl)⟩) h.1 rfl rfl hl.1.1 rfl (Nat.le_of_ble_eq_true rfl) dX0_writeNotes_4 ⟨(Nat.le_of_ble_eq_true rfl), (Nat.le_of_ble_eq_true rfl)⟩) rfl rfl (fun v_22 S_21 H locs h hp => ?_)
  refine q_ist (lv' := [(5, .int v_22), (0, .ref a0), (1, .ref a1), (2, .ref a2), (3, .ref a3), (4, .int x4)]) hx hb dX0_writeNotes_7 hl (by decide) rfl (fun ls hl => ?_)
  refine lv_aload_n hx hb dX0_writeNotes_9 rfl (q_at hl 1 rfl) ?_
  refine q_nGR C hp h rfl iX0_writeNotes_X5 (by decide) kX0_writeNotes_69 dX0_writeNotes_10 (fun r_23 h => ?_)
  refine lv_iload hx hb dX0_writeNotes_13 (q_at hl 0 rfl) ?_
  refine q_finI0 C hp (q_runV (As := [.int v_22]) (rest := []) C hp (RX2_keyAt l D g _ r_23 v_22 _ h _) (cwV 1 C.2.2.2.2.1 gX0_writeNotes_X2_keyAt rfl rfl rfl (by decide +kernel) ⟨(Nat.le_of_ble_eq_true rfl), (Nat.le_of_ble_eq_true rfl)⟩) h.1 rfl rfl hl.1.1 rfl (Nat.le_of_ble_eq_true rfl) dX0_writeNotes_15 ⟨(Nat.le_of_ble_eq_true rfl), (Nat.le_of_ble_eq_true rfl)⟩) rfl rfl (fun v_25 S_24 H locs h hp => ?_)
  refine q_ist (lv' := [(6, .int v_25), (5, .int v_22), (0, .ref a0), (1, .ref a1), (2, .ref a2), (3, .ref a3), (4, .int x4)]) hx hb dX0_writeNotes_18 hl (by decide) rfl (fun ls hl => ?_)
  refine lv_aload_n hx hb dX0_writeNotes_20 rfl (q_at hl 4 rfl) ?_
  refine q_nGR C hp h rfl iX0_writeNotes_X6 (by decide) kX0_writeNotes_14 dX0_writeNotes_21 (fun r_26 h => ?_)
  refine lv_iload hx hb dX0_writeNotes_24 (q_at hl 1 rfl) ?_
  refine q_finI0 C hp (q_runV (As := [.int v_22]) (rest := []) C hp (RX3_size l D g _ r_26 v_22 _ h _) (cwV 1 C.2.2.2.2.1 gX0_writeNotes_X3_size rfl rfl rfl (by decide +kernel) ⟨(Nat.le_of_ble_eq_true rfl), (Nat.le_of_ble_eq_true rfl)⟩) h.1 rfl rfl hl.1.1 rfl (Nat.le_of_ble_eq_true rfl) dX0_writeNotes_26 ⟨(Nat.le_of_ble_eq_true rfl), (Nat.le_of_ble_eq_true rfl)⟩) rfl rfl (fun v_28 S_27 H locs h hp => ?_)
  refine q_ist (lv' := [(7, .int v_28), (6, .int v_25), (5, .int v_22), (0, .ref a0), (1, .ref a1), (2, .ref a2), (3, .ref a3), (4, .int x4)]) hx hb dX0_writeNotes_29 hl (by decide) rfl (fun ls hl => ?_)
  refine lv_iconst (v := 0) hx hb dX0_writeNotes_31 (by decide) ?_
  refine q_ist (lv' := [(8, .int (0 : Int32)), (7, .int v_28), (6, .int v_25), (5, .int v_22), (0, .ref a0), (1, .ref a1), (2, .ref a2), (3, .ref a3), (4, .int x4)]) hx hb dX0_writeNotes_32 hl (by decide) rfl (fun ls hl => ?_)
  exact j34 q_fuel a1 a2 a3 x4 v_22 v_25 v_28 (0 : Int32) _ _ _ _ h hp (q_sub hl [5, 6, 7, 8, 3, 2, 1, 0] rfl)
theorem kX0_addRowAt_14 : Cond.fieldLinkNest RX0 14 (TX6 1).1 (TX6 1).2.1 (TX6 1).2.2.1 RX7 ∈ q_nest := by decide +kernel
theorem kX0_addRowAt_62 : Cond.fieldLinkNest RX0 62 (TX6 0).1 (TX6 0).2.1 (TX6 0).2.2.1 RX7 ∈ q_nest := by decide +kernel
theorem iX0_addRowAt_X6 : ∀ w ∈ u_ws RX6 TX6 5, w ∈ wsX0_addRowAt := by decide +kernel
set_option maxHeartbeats 4000000 in
set_option maxRecDepth 100000 in
theorem RX0_addRowAt (l : Launch) (D : va_G) (g : q_A) (S : q_S) (a0 : Nat) (a1 : Nat) (a2 : Nat) (x3 : Int32) (Q : Int32 → q_S → Prop) (h : wX0_addRowAt a0 a1 a2 x3 Q S) : q_Mi l yX0_addRowAt wsX0_addRowAt rmX0_addRowAt D g [.ref a0, .ref a1, .ref a2, .int x3] S Q := by
  refine q_Mi.of (cc := cX0_addRowAt) (nL := 8) (rt := .int) (by decide +kernel) rfl (Nat.le_of_ble_eq_true rfl) rfl ?_
  intro p e s m args below meth c ls A C hr hnm hp hl
  have C : q_X p s m args meth c cX0_addRowAt 8 RX0 wsX0_addRowAt D g A := C
  have hx := C.1
  have hb := C.2.1
  have hl : q_l ls 8 [(0, .ref a0), (1, .ref a1), (2, .ref a2), (3, .int x3)] := hl
  have j104 : ∀ (a0 : Nat) (a1 : Nat) (a2 : Nat) (x5 : Int32) (x7 : Int32) (S : q_S) (H : Heap) (locs : List Loc) (ls : Array Slot), wX0_addRowAt_b104 Q a0 a1 a2 x5 x7 S → q_P D g A s.heap S H locs → q_l ls 8 [(0, .ref a0), (1, .ref a1), (2, .ref a2), (5, .int x5), (7, .int x7)] → W p l e rmX0_addRowAt s m args below meth c H locs 0 0 (MQ below (va_Qi Q (q_B D g A) A) args s rmX0_addRowAt.cells rmX0_addRowAt.slots A) (F0 m 104 ls []) := by
    intro a0 a1 a2 x5 x7 S H locs ls h hp hl
    unfold wX0_addRowAt_b104 at h
    refine lv_aload_n hx hb dX0_addRowAt_104 rfl (q_at hl 0 rfl) ?_
    refine lv_aload_n hx hb dX0_addRowAt_105 rfl (q_at hl 1 rfl) ?_
    refine lv_aload_n hx hb dX0_addRowAt_106 rfl (q_at hl 2 rfl) ?_
    refine lv_iload hx hb dX0_addRowAt_107 (q_at hl 4 rfl) ?_
    refine q_finV0 C hp (q_runS (As := [.ref a0, .ref a1, .ref a2, .int x7]) (rest := []) C hp (RX0_finishRow l D g _ a0 a1 a2 x7 _ h _) (va_cwS 4 C.2.2.2.2.1 gX0_addRowAt_X0_finishRow rfl rfl rfl (by decide +kernel) ⟨(Nat.le_of_ble_eq_true rfl), (Nat.le_of_ble_eq_true rfl)⟩) rfl hl.1.1 rfl (Nat.le_of_ble_eq_true rfl) dX0_addRowAt_109 ⟨(Nat.le_of_ble_eq_true rfl), (Nat.le_of_ble_eq_true rfl)⟩) rfl rfl (fun S_1 H locs h hp => ?_)
    refine lv_iload hx hb dX0_addRowAt_112 (q_at hl 3 rfl) ?_
    exact q_iret C hp hr h dX0_addRowAt_114
  have j80 : ∀ (a0 : Nat) (a1 : Nat) (a2 : Nat) (x4 : Int32) (x5 : Int32) (o6 : Option Nat) (x7 : Int32) (S : q_S) (H : Heap) (locs : List Loc) (ls : Array Slot), wX0_addRowAt_b80 Q a0 a1 a2 x4 x5 o6 x7 S → q_P D g A s.heap S H locs → q_l ls 8 [(0, .ref a0), (1, .ref a1), (2, .ref a2), (4, .int x4), (5, .int x5), (6, va_rf o6), (7, .int x7)] → W p l e rmX0_addRowAt s m args below meth c H locs 0 0 (MQ below (va_Qi Q (q_B D g A) A) args s rmX0_addRowAt.cells rmX0_addRowAt.slots A) (F0 m 80 ls []) := by
    intro a0 a1 a2 x4 x5 o6 x7 S H locs ls h hp hl
    unfold wX0_addRowAt_b80 at h
    refine q_aload (o := o6) hx hb dX0_addRowAt_80 (q_at hl 5 rfl) ?_
    refine q_ifnull (o := o6) (tgt := 104) hx hb dX0_addRowAt_82 (by decide) (fun c_3 => ?_) (fun a_2 c_3 => ?_)
    · have hc_3 := h.1 c_3
      have lc_3 := hl
      have pc_3 := hp
      subst c_3
      have h := hc_3
      have hl := lc_3
      have hp := pc_3
      exact j104 a0 a1 a2 x5 x7 _ _ _ _ h hp (q_sub hl [0, 1, 2, 4, 6] rfl)
    · have hc_3 := h.2 a_2 c_3
      have lc_3 := hl
      have pc_3 := hp
      subst c_3
      have h := hc_3
      have hl := lc_3
      have hp := pc_3
      refine lv_iload hx hb dX0_addRowAt_85 (q_at hl 3 rfl) ?_
      refine lv_iconst (v := 2) hx hb dX0_addRowAt_87 (by decide) ?_
      refine lv_icmp_ne (tgt := 104) hx hb dX0_addRowAt_88 (by decide) (fun c_4 => ?_) (fun c_4 => ?_)
      · replace h := h.1 c_4
        exact j104 a0 a1 a2 x5 x7 _ _ _ _ h hp (q_sub hl [0, 1, 2, 4, 6] rfl)
      · replace h := h.2 c_4
        refine lv_aload_n hx hb dX0_addRowAt_91 rfl (q_at hl 2 rfl) ?_
        refine lv_iload hx hb dX0_addRowAt_92 (q_at hl 6 rfl) ?_
        refine lv_bipush (v := 6) hx hb dX0_addRowAt_94 (by decide) ?_
        refine lv_aload hx hb dX0_addRowAt_96 (q_at hl 5 rfl) ?_
        refine q_nGI C hp h rfl iX0_addRowAt_X6 (by decide) kX0_addRowAt_62 dX0_addRowAt_98 (fun v_5 h => ?_)
        refine q_finV0 C hp (q_runV (As := [.int x7, .int (6 : Int32), .int v_5]) (rest := []) C hp (RX4_setFigure l D g _ a2 x7 (6 : Int32) v_5 _ h _) (cwV 3 C.2.2.2.2.1 gX0_addRowAt_X4_setFigure rfl rfl rfl (by decide +kernel) ⟨(Nat.le_of_ble_eq_true rfl), (Nat.le_of_ble_eq_true rfl)⟩) h.1 rfl rfl hl.1.1 rfl (Nat.le_of_ble_eq_true rfl) dX0_addRowAt_101 ⟨(Nat.le_of_ble_eq_true rfl), (Nat.le_of_ble_eq_true rfl)⟩) rfl rfl (fun S_6 H locs h hp => ?_)
        exact j104 a0 a1 a2 x5 x7 _ _ _ _ h hp (q_sub hl [0, 1, 2, 4, 6] rfl)
  have j54 : ∀ (a0 : Nat) (a1 : Nat) (a2 : Nat) (x3 : Int32) (x4 : Int32) (x5 : Int32) (o6 : Option Nat) (S : q_S) (H : Heap) (locs : List Loc) (ls : Array Slot), wX0_addRowAt_b54 Q a0 a1 a2 x3 x4 x5 o6 S → q_P D g A s.heap S H locs → q_l ls 8 [(0, .ref a0), (1, .ref a1), (2, .ref a2), (3, .int x3), (4, .int x4), (5, .int x5), (6, va_rf o6)] → W p l e rmX0_addRowAt s m args below meth c H locs 0 0 (MQ below (va_Qi Q (q_B D g A) A) args s rmX0_addRowAt.cells rmX0_addRowAt.slots A) (F0 m 54 ls []) := by
    intro a0 a1 a2 x3 x4 x5 o6 S H locs ls h hp hl
    unfold wX0_addRowAt_b54 at h
    refine lv_aload_n hx hb dX0_addRowAt_54 rfl (q_at hl 2 rfl) ?_
    refine lv_iload hx hb dX0_addRowAt_55 (q_at hl 4 rfl) ?_
    refine lv_iload_n hx hb dX0_addRowAt_57 rfl (q_at hl 3 rfl) ?_
    refine lv_iload hx hb dX0_addRowAt_58 (q_at hl 5 rfl) ?_
    refine q_finI0 C hp (q_runV (As := [.int x4, .int x3, .int x5]) (rest := []) C hp (RX4_addRow l D g _ a2 x4 x3 x5 _ h _) (cwV 3 C.2.2.2.2.1 gX0_addRowAt_X4_addRow rfl rfl rfl (by decide +kernel) ⟨(Nat.le_of_ble_eq_true rfl), (Nat.le_of_ble_eq_true rfl)⟩) h.1 rfl rfl hl.1.1 rfl (Nat.le_of_ble_eq_true rfl) dX0_addRowAt_60 ⟨(Nat.le_of_ble_eq_true rfl), (Nat.le_of_ble_eq_true rfl)⟩) rfl rfl (fun v_8 S_7 H locs h hp => ?_)
    refine q_ist (lv' := [(7, .int v_8), (0, .ref a0), (1, .ref a1), (2, .ref a2), (3, .int x3), (4, .int x4), (5, .int x5), (6, va_rf o6)]) hx hb dX0_addRowAt_63 hl (by decide) rfl (fun ls hl => ?_)
    refine q_aload (o := o6) hx hb dX0_addRowAt_65 (q_at hl 7 rfl) ?_
    refine q_ifnull (o := o6) (tgt := 80) hx hb dX0_addRowAt_67 (by decide) (fun c_10 => ?_) (fun a_9 c_10 => ?_)
    · have hc_10 := h.1 c_10
      have lc_10 := hl
      have pc_10 := hp
      subst c_10
      have h := hc_10
      have hl := lc_10
      have hp := pc_10
      exact j80 a0 a1 a2 x4 x5 none v_8 _ _ _ _ h hp (q_sub hl [1, 2, 3, 5, 6, 7, 0] rfl)
    · have hc_10 := h.2 a_9 c_10
      have lc_10 := hl
      have pc_10 := hp
      subst c_10
      have h := hc_10
      have hl := lc_10
      have hp := pc_10
      refine lv_aload_n hx hb dX0_addRowAt_70 rfl (q_at hl 1 rfl) ?_
      refine lv_aload_n hx hb dX0_addRowAt_71 rfl (q_at hl 2 rfl) ?_
      refine lv_aload hx hb dX0_addRowAt_72 (q_at hl 7 rfl) ?_
      refine lv_aload_n hx hb dX0_addRowAt_74 rfl (q_at hl 3 rfl) ?_
      refine lv_iload hx hb dX0_addRowAt_75 (q_at hl 0 rfl) ?_
      refine q_finV0 C hp (q_runS (As := [.ref a0, .ref a1, .ref a_9, .ref a2, .int v_8]) (rest := []) C hp (RX0_writeNotes l D g _ a0 a1 a_9 a2 v_8 _ h _) (va_cwS 5 C.2.2.2.2.1 gX0_addRowAt_X0_writeNotes rfl rfl rfl (by decide +kernel) ⟨(Nat.le_of_ble_eq_true rfl), (Nat.le_of_ble_eq_true rfl)⟩) rfl hl.1.1 rfl (Nat.le_of_ble_eq_true rfl) dX0_addRowAt_77 ⟨(Nat.le_of_ble_eq_true rfl), (Nat.le_of_ble_eq_true rfl)⟩) rfl rfl (fun S_11 H locs h hp => ?_)
      exact j80 a0 a1 a2 x4 x5 (some a_9) v_8 _ _ _ _ h hp (q_sub hl [1, 2, 3, 5, 6, 7, 0] rfl)
  have j40 : ∀ (a0 : Nat) (a1 : Nat) (a2 : Nat) (x3 : Int32) (x4 : Int32) (x5 : Int32) (o6 : Option Nat) (S : q_S) (H : Heap) (locs : List Loc) (ls : Array Slot), wX0_addRowAt_b40 Q a0 a1 a2 x3 x4 x5 o6 S → q_P D g A s.heap S H locs → q_l ls 8 [(0, .ref a0), (1, .ref a1), (2, .ref a2), (3, .int x3), (4, .int x4), (5, .int x5), (6, va_rf o6)] → W p l e rmX0_addRowAt s m args below meth c H locs 0 0 (MQ below (va_Qi Q (q_B D g A) A) args s rmX0_addRowAt.cells rmX0_addRowAt.slots A) (F0 m 40 ls []) := by
    intro a0 a1 a2 x3 x4 x5 o6 S H locs ls h hp hl
    unfold wX0_addRowAt_b40 at h
    refine lv_iload hx hb dX0_addRowAt_40 (q_at hl 4 rfl) ?_
    refine lv_iconst (v := 1) hx hb dX0_addRowAt_42 (by decide) ?_
    refine lv_icmp_ne (tgt := 54) hx hb dX0_addRowAt_43 (by decide) (fun c_12 => ?_) (fun c_12 => ?_)
    · replace h := h.1 c_12
      exact j54 a0 a1 a2 x3 x4 x5 o6 _ _ _ _ h hp (q_sub hl [0, 1, 2, 3, 4, 5, 6] rfl)
    · replace h := h.2 c_12
      refine lv_aload_n hx hb dX0_addRowAt_46 rfl (q_at hl 0 rfl) ?_
      refine lv_aload_n hx hb dX0_addRowAt_47 rfl (q_at hl 1 rfl) ?_
      refine lv_iload_n hx hb dX0_addRowAt_48 rfl (q_at hl 3 rfl) ?_
      refine q_finI0 C hp (q_runS (As := [.ref a0, .ref a1, .int x3]) (rest := []) C hp (RX0_restLength l D g _ a0 a1 x3 _ h _) (va_cwS 3 C.2.2.2.2.1 gX0_addRowAt_X0_restLength rfl rfl rfl (by decide +kernel) ⟨(Nat.le_of_ble_eq_true rfl), (Nat.le_of_ble_eq_true rfl)⟩) rfl hl.1.1 rfl (Nat.le_of_ble_eq_true rfl) dX0_addRowAt_49 ⟨(Nat.le_of_ble_eq_true rfl), (Nat.le_of_ble_eq_true rfl)⟩) rfl rfl (fun v_14 S_13 H locs h hp => ?_)
      refine q_ist (lv' := [(5, .int v_14), (0, .ref a0), (1, .ref a1), (2, .ref a2), (3, .int x3), (4, .int x4), (6, va_rf o6)]) hx hb dX0_addRowAt_52 hl (by decide) rfl (fun ls hl => ?_)
      exact j54 a0 a1 a2 x3 x4 v_14 o6 _ _ _ _ h hp (q_sub hl [1, 2, 3, 4, 5, 0, 6] rfl)
  have j38 : ∀ (a0 : Nat) (a1 : Nat) (a2 : Nat) (x3 : Int32) (x5 : Int32) (o6 : Option Nat) (y0 : Int32) (S : q_S) (H : Heap) (locs : List Loc) (ls : Array Slot), wX0_addRowAt_b38 Q a0 a1 a2 x3 x5 o6 y0 S → q_P D g A s.heap S H locs → q_l ls 8 [(0, .ref a0), (1, .ref a1), (2, .ref a2), (3, .int x3), (5, .int x5), (6, va_rf o6)] → W p l e rmX0_addRowAt s m args below meth c H locs 0 0 (MQ below (va_Qi Q (q_B D g A) A) args s rmX0_addRowAt.cells rmX0_addRowAt.slots A) (F0 m 38 ls [.int y0]) := by
    intro a0 a1 a2 x3 x5 o6 y0 S H locs ls h hp hl
    unfold wX0_addRowAt_b38 at h
    refine q_ist (lv' := [(4, .int y0), (0, .ref a0), (1, .ref a1), (2, .ref a2), (3, .int x3), (5, .int x5), (6, va_rf o6)]) hx hb dX0_addRowAt_38 hl (by decide) rfl (fun ls hl => ?_)
    exact j40 a0 a1 a2 x3 y0 x5 o6 _ _ _ _ h hp (q_sub hl [1, 2, 3, 4, 0, 5, 6] rfl)
  unfold wX0_addRowAt at h
  refine lv_iconst (v := 0) hx hb dX0_addRowAt_0 (by decide) ?_
  refine q_ist (lv' := [(4, .int (0 : Int32)), (0, .ref a0), (1, .ref a1), (2, .ref a2), (3, .int x3)]) hx hb dX0_addRowAt_1 hl (by decide) rfl (fun ls hl => ?_)
  refine lv_iconst (v := 1) hx hb dX0_addRowAt_3 (by decide) ?_
  refine q_ist (lv' := [(5, .int (1 : Int32)), (4, .int (0 : Int32)), (0, .ref a0), (1, .ref a1), (2, .ref a2), (3, .int x3)]) hx hb dX0_addRowAt_4 hl (by decide) rfl (fun ls hl => ?_)
  refine lv_aload_n hx hb dX0_addRowAt_6 rfl (q_at hl 3 rfl) ?_
  refine q_ast (o := (some a1)) (lv' := [(6, .ref a1), (5, .int (1 : Int32)), (4, .int (0 : Int32)), (0, .ref a0), (1, .ref a1), (2, .ref a2), (3, .int x3)]) hx hb dX0_addRowAt_7 hl (by decide) rfl (fun ls hl => ?_)
  refine lv_aload_n hx hb dX0_addRowAt_9 rfl (q_at hl 4 rfl) ?_
  refine q_nGR C hp h rfl iX0_addRowAt_X6 (by decide) kX0_addRowAt_14 dX0_addRowAt_10 (fun r_15 h => ?_)
  refine lv_iload_n hx hb dX0_addRowAt_13 rfl (q_at hl 6 rfl) ?_
  refine q_finI0 C hp (q_runV (As := [.int x3]) (rest := []) C hp (RX3_size l D g _ r_15 x3 _ h _) (cwV 1 C.2.2.2.2.1 gX0_addRowAt_X3_size rfl rfl rfl (by decide +kernel) ⟨(Nat.le_of_ble_eq_true rfl), (Nat.le_of_ble_eq_true rfl)⟩) h.1 rfl rfl hl.1.1 rfl (Nat.le_of_ble_eq_true rfl) dX0_addRowAt_14 ⟨(Nat.le_of_ble_eq_true rfl), (Nat.le_of_ble_eq_true rfl)⟩) rfl rfl (fun v_17 S_16 H locs h hp => ?_)
  refine lv_if_ne (tgt := 40) hx hb dX0_addRowAt_17 (by decide) (fun c_18 => ?_) (fun c_18 => ?_)
  · replace h := h.1 c_18
    exact j40 a0 a1 a2 x3 (0 : Int32) (1 : Int32) (some a1) _ _ _ _ h hp (q_sub hl [3, 4, 5, 6, 2, 1, 0] rfl)
  · replace h := h.2 c_18
    refine lv_aload_n hx hb dX0_addRowAt_20 rfl (q_at hl 3 rfl) ?_
    refine lv_aload_n hx hb dX0_addRowAt_21 rfl (q_at hl 4 rfl) ?_
    refine lv_iload_n hx hb dX0_addRowAt_22 rfl (q_at hl 6 rfl) ?_
    refine q_finQ0 C hp (q_runV (As := [.ref a1, .int x3]) (rest := []) C hp (RX5_cueFor l D g _ a0 a1 x3 _ h _) (cwV 2 C.2.2.2.2.1 gX0_addRowAt_X5_cueFor rfl rfl rfl (by decide +kernel) ⟨(Nat.le_of_ble_eq_true rfl), (Nat.le_of_ble_eq_true rfl)⟩) h.1 rfl rfl hl.1.1 rfl (Nat.le_of_ble_eq_true rfl) dX0_addRowAt_23 ⟨(Nat.le_of_ble_eq_true rfl), (Nat.le_of_ble_eq_true rfl)⟩) rfl rfl (fun o_20 S_19 H locs h hp => ?_)
    refine q_ast (o := o_20) (lv' := [(6, va_rf o_20), (5, .int (1 : Int32)), (4, .int (0 : Int32)), (0, .ref a0), (1, .ref a1), (2, .ref a2), (3, .int x3)]) hx hb dX0_addRowAt_26 hl (by decide) rfl (fun ls hl => ?_)
    refine q_aload (o := o_20) hx hb dX0_addRowAt_28 (q_at hl 0 rfl) ?_
    refine q_ifnonnull (o := o_20) (tgt := 37) hx hb dX0_addRowAt_30 (by decide) (fun c_22 => ?_) (fun a_21 c_22 => ?_)
    · have hc_22 := h.1 c_22
      have lc_22 := hl
      have pc_22 := hp
      subst c_22
      have h := hc_22
      have hl := lc_22
      have hp := pc_22
      refine lv_iconst (v := 1) hx hb dX0_addRowAt_33 (by decide) ?_
      refine lv_goto (tgt := 38) hx hb dX0_addRowAt_34 (by decide) ?_
      exact j38 a0 a1 a2 x3 (1 : Int32) none (1 : Int32) _ _ _ _ h hp (q_sub hl [3, 4, 5, 6, 1, 0] rfl)
    · have hc_22 := h.2 a_21 c_22
      have lc_22 := hl
      have pc_22 := hp
      subst c_22
      have h := hc_22
      have hl := lc_22
      have hp := pc_22
      refine lv_iconst (v := 2) hx hb dX0_addRowAt_37 (by decide) ?_
      exact j38 a0 a1 a2 x3 (1 : Int32) (some a_21) (2 : Int32) _ _ _ _ h hp (q_sub hl [3, 4, 5, 6, 1, 0] rfl)
theorem kX0_make_14 : Cond.fieldLinkNest RX0 14 (TX6 1).1 (TX6 1).2.1 (TX6 1).2.2.1 RX7 ∈ q_nest := by decide +kernel
theorem kX0_make_26 : Cond.fieldLinkNest RX0 26 (TX5 3).1 (TX5 3).2.1 (TX5 3).2.2.1 RX7 ∈ q_nest := by decide +kernel
theorem iX0_make_X5 : ∀ w ∈ u_ws RX5 TX5 5, w ∈ wsX0_make := by decide +kernel
theorem iX0_make_X6 : ∀ w ∈ u_ws RX6 TX6 5, w ∈ wsX0_make := by decide +kernel
set_option maxHeartbeats 4000000 in
set_option maxRecDepth 100000 in
theorem RX0_make (l : Launch) (D : va_G) (g : q_A) (S : q_S) (a0 : Nat) (a1 : Nat) (a2 : Nat) (Q : q_S → Prop) (h : wX0_make a0 a1 a2 Q S) : q_Mv l yX0_make wsX0_make rmX0_make D g [.ref a0, .ref a1, .ref a2] S Q := by
  refine q_Mv.of (cc := cX0_make) (nL := 5) (by decide +kernel) rfl (Nat.le_of_ble_eq_true rfl) rfl ?_
  intro p e s m args below meth c ls A C hr hnm hp hl
  have C : q_X p s m args meth c cX0_make 5 RX0 wsX0_make D g A := C
  have hx := C.1
  have hb := C.2.1
  have hl : q_l ls 5 [(0, .ref a0), (1, .ref a1), (2, .ref a2)] := hl
  have j74 : ∀ (k47 : Nat → Nat → Nat → Int32 → Int32 → q_S → Prop) (ih47 : ∀ (a0 : Nat) (a1 : Nat) (a2 : Nat) (x3 : Int32) (x4 : Int32) (S : q_S) (H : Heap) (locs : List Loc) (ls : Array Slot), k47 a0 a1 a2 x3 x4 S → q_P D g A s.heap S H locs → q_l ls 5 [(0, .ref a0), (1, .ref a1), (2, .ref a2), (3, .int x3), (4, .int x4)] → W p l e rmX0_make s m args below meth c H locs 0 0 (MQ below (va_Qv Q (q_B D g A) A) args s rmX0_make.cells rmX0_make.slots A) (F0 m 47 ls [])) (a0 : Nat) (a1 : Nat) (a2 : Nat) (x3 : Int32) (x4 : Int32) (S : q_S) (H : Heap) (locs : List Loc) (ls : Array Slot), wX0_make_b74 Q k47 a0 a1 a2 x3 x4 S → q_P D g A s.heap S H locs → q_l ls 5 [(0, .ref a0), (1, .ref a1), (2, .ref a2), (3, .int x3), (4, .int x4)] → W p l e rmX0_make s m args below meth c H locs 0 0 (MQ below (va_Qv Q (q_B D g A) A) args s rmX0_make.cells rmX0_make.slots A) (F0 m 74 ls []) := by
    intro k47 ih47 a0 a1 a2 x3 x4 S H locs ls h hp hl
    unfold wX0_make_b74 at h
    refine q_inc (x := x4) (v := (x4 + (1 : Int32))) (lv' := [(4, .int (x4 + (1 : Int32))), (0, .ref a0), (1, .ref a1), (2, .ref a2), (3, .int x3)]) hx hb dX0_make_74 hl (k := 4) rfl rfl (by decide) rfl (fun ls hl => ?_)
    refine lv_goto (tgt := 47) hx hb dX0_make_77 (by decide) ?_
    exact ih47 a0 a1 a2 x3 (x4 + (1 : Int32)) _ _ _ _ h hp (q_sub hl [1, 2, 3, 4, 0] rfl)
  have j47 : ∀ (n : Nat), ∀ (a0 : Nat) (a1 : Nat) (a2 : Nat) (x3 : Int32) (x4 : Int32) (S : q_S) (H : Heap) (locs : List Loc) (ls : Array Slot), lX0_make_b47 Q n a0 a1 a2 x3 x4 S → q_P D g A s.heap S H locs → q_l ls 5 [(0, .ref a0), (1, .ref a1), (2, .ref a2), (3, .int x3), (4, .int x4)] → W p l e rmX0_make s m args below meth c H locs 0 0 (MQ below (va_Qv Q (q_B D g A) A) args s rmX0_make.cells rmX0_make.slots A) (F0 m 47 ls []) := by
    intro n
    induction n with
    | zero => intro a0 a1 a2 x3 x4 S H locs ls h; exact absurd h (fun h => h)
    | succ n ih47 =>
      intro a0 a1 a2 x3 x4 S H locs ls h hp hl
      have h : wX0_make_b47 Q (lX0_make_b47 Q n) a0 a1 a2 x3 x4 S := h
      unfold wX0_make_b47 at h
      refine lv_iload hx hb dX0_make_47 (q_at hl 4 rfl) ?_
      refine lv_aload_n hx hb dX0_make_49 rfl (q_at hl 0 rfl) ?_
      refine q_nGI C hp h rfl iX0_make_X5 (by decide) kX0_make_26 dX0_make_50 (fun v_1 h => ?_)
      refine lv_icmp_ge (tgt := 80) hx hb dX0_make_53 (by decide) (fun c_2 => ?_) (fun c_2 => ?_)
      · replace h := h.1 c_2
        exact q_vret C hp hr h dX0_make_80
      · replace h := h.2 c_2
        refine lv_iload hx hb dX0_make_56 (q_at hl 4 rfl) ?_
        refine lv_iload_n hx hb dX0_make_58 rfl (q_at hl 3 rfl) ?_
        refine lv_icmp_lt (tgt := 74) hx hb dX0_make_59 (by decide) (fun c_3 => ?_) (fun c_3 => ?_)
        · replace h := h.1 c_3
          exact j74 (lX0_make_b47 Q n) ih47 a0 a1 a2 x3 x4 _ _ _ _ h hp (q_sub hl [0, 1, 2, 3, 4] rfl)
        · replace h := h.2 c_3
          refine lv_iload hx hb dX0_make_62 (q_at hl 4 rfl) ?_
          refine lv_aload_n hx hb dX0_make_64 rfl (q_at hl 0 rfl) ?_
          refine lv_aload_n hx hb dX0_make_65 rfl (q_at hl 1 rfl) ?_
          refine lv_aload_n hx hb dX0_make_66 rfl (q_at hl 2 rfl) ?_
          refine lv_iload hx hb dX0_make_67 (q_at hl 4 rfl) ?_
          refine q_finI0 C hp (q_runS (As := [.ref a0, .ref a1, .ref a2, .int x4]) (rest := [.int x4]) C hp (RX0_addRowAt l D g _ a0 a1 a2 x4 _ h _) (va_cwS 4 C.2.2.2.2.1 gX0_make_X0_addRowAt rfl rfl rfl (by decide +kernel) ⟨(Nat.le_of_ble_eq_true rfl), (Nat.le_of_ble_eq_true rfl)⟩) rfl hl.1.1 rfl (Nat.le_of_ble_eq_true rfl) dX0_make_69 ⟨(Nat.le_of_ble_eq_true rfl), (Nat.le_of_ble_eq_true rfl)⟩) rfl rfl (fun v_5 S_4 H locs h hp => ?_)
          refine lv_iadd hx hb dX0_make_72 ?_
          refine q_istn (lv' := [(3, .int (x4 + v_5)), (0, .ref a0), (1, .ref a1), (2, .ref a2), (4, .int x4)]) hx hb dX0_make_73 rfl hl (by decide) rfl (fun ls hl => ?_)
          exact j74 (lX0_make_b47 Q n) ih47 a0 a1 a2 (x4 + v_5) x4 _ _ _ _ h hp (q_sub hl [1, 2, 3, 0, 4] rfl)
  have j44 : ∀ (a0 : Nat) (a1 : Nat) (a2 : Nat) (x3 : Int32) (S : q_S) (H : Heap) (locs : List Loc) (ls : Array Slot), wX0_make_b44 Q a0 a1 a2 x3 S → q_P D g A s.heap S H locs → q_l ls 5 [(0, .ref a0), (1, .ref a1), (2, .ref a2), (3, .int x3)] → W p l e rmX0_make s m args below meth c H locs 0 0 (MQ below (va_Qv Q (q_B D g A) A) args s rmX0_make.cells rmX0_make.slots A) (F0 m 44 ls []) := by
    intro a0 a1 a2 x3 S H locs ls h hp hl
    unfold wX0_make_b44 at h
    refine lv_iconst (v := 0) hx hb dX0_make_44 (by decide) ?_
    refine q_ist (lv' := [(4, .int (0 : Int32)), (0, .ref a0), (1, .ref a1), (2, .ref a2), (3, .int x3)]) hx hb dX0_make_45 hl (by decide) rfl (fun ls hl => ?_)
    exact j47 q_fuel a0 a1 a2 x3 (0 : Int32) _ _ _ _ h hp (q_sub hl [1, 2, 3, 4, 0] rfl)
  unfold wX0_make at h
  refine lv_aload_n hx hb dX0_make_0 rfl (q_at hl 2 rfl) ?_
  refine q_finV0 C hp (q_runV (As := []) (rest := []) C hp (RX4_clear l D g _ a2 _ h _) (cwV 0 C.2.2.2.2.1 gX0_make_X4_clear rfl rfl rfl (by decide +kernel) ⟨(Nat.le_of_ble_eq_true rfl), (Nat.le_of_ble_eq_true rfl)⟩) h.1 rfl rfl hl.1.1 rfl (Nat.le_of_ble_eq_true rfl) dX0_make_1 ⟨(Nat.le_of_ble_eq_true rfl), (Nat.le_of_ble_eq_true rfl)⟩) rfl rfl (fun S_6 H locs h hp => ?_)
  refine lv_iconst (v := 0) hx hb dX0_make_4 (by decide) ?_
  refine q_istn (lv' := [(3, .int (0 : Int32)), (0, .ref a0), (1, .ref a1), (2, .ref a2)]) hx hb dX0_make_5 rfl hl (by decide) rfl (fun ls hl => ?_)
  refine lv_aload_n hx hb dX0_make_6 rfl (q_at hl 2 rfl) ?_
  refine q_nGR C hp h rfl iX0_make_X6 (by decide) kX0_make_14 dX0_make_7 (fun r_7 h => ?_)
  refine q_finI0 C hp (q_runV (As := []) (rest := []) C hp (RX3_total l D g _ r_7 _ h _) (cwV 0 C.2.2.2.2.1 gX0_make_X3_total rfl rfl rfl (by decide +kernel) ⟨(Nat.le_of_ble_eq_true rfl), (Nat.le_of_ble_eq_true rfl)⟩) h.1 rfl rfl hl.1.1 rfl (Nat.le_of_ble_eq_true rfl) dX0_make_10 ⟨(Nat.le_of_ble_eq_true rfl), (Nat.le_of_ble_eq_true rfl)⟩) rfl rfl (fun v_9 S_8 H locs h hp => ?_)
  refine lv_if_ne (tgt := 44) hx hb dX0_make_13 (by decide) (fun c_10 => ?_) (fun c_10 => ?_)
  · replace h := h.1 c_10
    exact j44 a0 a1 a2 (0 : Int32) _ _ _ _ h hp (q_sub hl [1, 2, 3, 0] rfl)
  · replace h := h.2 c_10
    refine lv_aload_n hx hb dX0_make_16 rfl (q_at hl 1 rfl) ?_
    refine q_nGI C hp h rfl iX0_make_X5 (by decide) kX0_make_26 dX0_make_17 (fun v_11 h => ?_)
    refine lv_if_le (tgt := 44) hx hb dX0_make_20 (by decide) (fun c_12 => ?_) (fun c_12 => ?_)
    · replace h := h.1 c_12
      exact j44 a0 a1 a2 (0 : Int32) _ _ _ _ h hp (q_sub hl [1, 2, 3, 0] rfl)
    · replace h := h.2 c_12
      refine lv_aload_n hx hb dX0_make_23 rfl (q_at hl 1 rfl) ?_
      refine lv_aload_n hx hb dX0_make_24 rfl (q_at hl 2 rfl) ?_
      refine lv_aload_n hx hb dX0_make_25 rfl (q_at hl 3 rfl) ?_
      refine lv_aload_n hx hb dX0_make_26 rfl (q_at hl 3 rfl) ?_
      refine lv_iconst (v := 3) hx hb dX0_make_27 (by decide) ?_
      refine lv_iconst (v := 0) hx hb dX0_make_28 (by decide) ?_
      refine lv_aload_n hx hb dX0_make_29 rfl (q_at hl 1 rfl) ?_
      refine q_nGI C hp h rfl iX0_make_X5 (by decide) kX0_make_26 dX0_make_30 (fun v_13 h => ?_)
      refine q_finI0 C hp (q_runV (As := [.int (3 : Int32), .int (0 : Int32), .int v_13]) (rest := [.ref a2, .ref a1, .ref a0]) C hp (RX4_addRow l D g _ a2 (3 : Int32) (0 : Int32) v_13 _ h _) (cwV 3 C.2.2.2.2.1 gX0_make_X4_addRow rfl rfl rfl (by decide +kernel) ⟨(Nat.le_of_ble_eq_true rfl), (Nat.le_of_ble_eq_true rfl)⟩) h.1 rfl rfl hl.1.1 rfl (Nat.le_of_ble_eq_true rfl) dX0_make_33 ⟨(Nat.le_of_ble_eq_true rfl), (Nat.le_of_ble_eq_true rfl)⟩) rfl rfl (fun v_15 S_14 H locs h hp => ?_)
      refine q_finV0 C hp (q_runS (As := [.ref a0, .ref a1, .ref a2, .int v_15]) (rest := []) C hp (RX0_finishRow l D g _ a0 a1 a2 v_15 _ h _) (va_cwS 4 C.2.2.2.2.1 gX0_make_X0_finishRow rfl rfl rfl (by decide +kernel) ⟨(Nat.le_of_ble_eq_true rfl), (Nat.le_of_ble_eq_true rfl)⟩) rfl hl.1.1 rfl (Nat.le_of_ble_eq_true rfl) dX0_make_36 ⟨(Nat.le_of_ble_eq_true rfl), (Nat.le_of_ble_eq_true rfl)⟩) rfl rfl (fun S_16 H locs h hp => ?_)
      refine lv_aload_n hx hb dX0_make_39 rfl (q_at hl 1 rfl) ?_
      refine q_nGI C hp h rfl iX0_make_X5 (by decide) kX0_make_26 dX0_make_40 (fun v_17 h => ?_)
      refine q_istn (lv' := [(3, .int v_17), (0, .ref a0), (1, .ref a1), (2, .ref a2)]) hx hb dX0_make_43 rfl hl (by decide) rfl (fun ls hl => ?_)
      exact j44 a0 a1 a2 v_17 _ _ _ _ h hp (q_sub hl [1, 2, 3, 0] rfl)
