theorem dX3_init_0 : decode cX3_init 0 = .ok (.aload_n 0, 1) := by decide +kernel
theorem dX3_init_1 : decode cX3_init 1 = .ok (.invokespecial 3, 3) := by decide +kernel
theorem dX3_init_4 : decode cX3_init 4 = .ok (.aload_n 0, 1) := by decide +kernel
theorem dX3_init_5 : decode cX3_init 5 = .ok (.bipush 40, 2) := by decide +kernel
theorem dX3_init_7 : decode cX3_init 7 = .ok (.newarray .int, 2) := by decide +kernel
theorem dX3_init_9 : decode cX3_init 9 = .ok (.putfield 9, 3) := by decide +kernel
theorem dX3_init_12 : decode cX3_init 12 = .ok (.aload_n 0, 1) := by decide +kernel
theorem dX3_init_13 : decode cX3_init 13 = .ok (.sipush 1280, 3) := by decide +kernel
theorem dX3_init_16 : decode cX3_init 16 = .ok (.newarray .int, 2) := by decide +kernel
theorem dX3_init_18 : decode cX3_init 18 = .ok (.putfield 15, 3) := by decide +kernel
theorem dX3_init_21 : decode cX3_init 21 = .ok (.return_, 1) := by decide +kernel
theorem dX3_size_0 : decode cX3_size 0 = .ok (.iload_n 1, 1) := by decide +kernel
theorem dX3_size_1 : decode cX3_size 1 = .ok (.ifCond .lt 18, 3) := by decide +kernel
theorem dX3_size_4 : decode cX3_size 4 = .ok (.iload_n 1, 1) := by decide +kernel
theorem dX3_size_5 : decode cX3_size 5 = .ok (.bipush 40, 2) := by decide +kernel
theorem dX3_size_7 : decode cX3_size 7 = .ok (.if_icmp .ge 12, 3) := by decide +kernel
theorem dX3_size_10 : decode cX3_size 10 = .ok (.aload_n 0, 1) := by decide +kernel
theorem dX3_size_11 : decode cX3_size 11 = .ok (.getfield 9, 3) := by decide +kernel
theorem dX3_size_14 : decode cX3_size 14 = .ok (.iload_n 1, 1) := by decide +kernel
theorem dX3_size_15 : decode cX3_size 15 = .ok (.iaload, 1) := by decide +kernel
theorem dX3_size_16 : decode cX3_size 16 = .ok (.goto 4, 3) := by decide +kernel
theorem dX3_size_19 : decode cX3_size 19 = .ok (.iconst 0, 1) := by decide +kernel
theorem dX3_size_20 : decode cX3_size 20 = .ok (.ireturn, 1) := by decide +kernel
theorem dX3_figure_0 : decode cX3_figure 0 = .ok (.iload_n 1, 1) := by decide +kernel
theorem dX3_figure_1 : decode cX3_figure 1 = .ok (.ifCond .lt 32, 3) := by decide +kernel
theorem dX3_figure_4 : decode cX3_figure 4 = .ok (.iload_n 1, 1) := by decide +kernel
theorem dX3_figure_5 : decode cX3_figure 5 = .ok (.bipush 40, 2) := by decide +kernel
theorem dX3_figure_7 : decode cX3_figure 7 = .ok (.if_icmp .ge 26, 3) := by decide +kernel
theorem dX3_figure_10 : decode cX3_figure 10 = .ok (.iload_n 2, 1) := by decide +kernel
theorem dX3_figure_11 : decode cX3_figure 11 = .ok (.ifCond .lt 22, 3) := by decide +kernel
theorem dX3_figure_14 : decode cX3_figure 14 = .ok (.iload_n 2, 1) := by decide +kernel
theorem dX3_figure_15 : decode cX3_figure 15 = .ok (.aload_n 0, 1) := by decide +kernel
theorem dX3_figure_16 : decode cX3_figure 16 = .ok (.getfield 9, 3) := by decide +kernel
theorem dX3_figure_19 : decode cX3_figure 19 = .ok (.iload_n 1, 1) := by decide +kernel
theorem dX3_figure_20 : decode cX3_figure 20 = .ok (.iaload, 1) := by decide +kernel
theorem dX3_figure_21 : decode cX3_figure 21 = .ok (.if_icmp .ge 12, 3) := by decide +kernel
theorem dX3_figure_24 : decode cX3_figure 24 = .ok (.iload_n 3, 1) := by decide +kernel
theorem dX3_figure_25 : decode cX3_figure 25 = .ok (.ifCond .lt 8, 3) := by decide +kernel
theorem dX3_figure_28 : decode cX3_figure 28 = .ok (.iload_n 3, 1) := by decide +kernel
theorem dX3_figure_29 : decode cX3_figure 29 = .ok (.iconst 4, 1) := by decide +kernel
theorem dX3_figure_30 : decode cX3_figure 30 = .ok (.if_icmp .lt 6, 3) := by decide +kernel
theorem dX3_figure_33 : decode cX3_figure 33 = .ok (.bipush (-100), 2) := by decide +kernel
theorem dX3_figure_35 : decode cX3_figure 35 = .ok (.ireturn, 1) := by decide +kernel
theorem dX3_figure_36 : decode cX3_figure 36 = .ok (.aload_n 0, 1) := by decide +kernel
theorem dX3_figure_37 : decode cX3_figure 37 = .ok (.getfield 15, 3) := by decide +kernel
theorem dX3_figure_40 : decode cX3_figure 40 = .ok (.iload_n 1, 1) := by decide +kernel
theorem dX3_figure_41 : decode cX3_figure 41 = .ok (.bipush 8, 2) := by decide +kernel
theorem dX3_figure_43 : decode cX3_figure 43 = .ok (.imul, 1) := by decide +kernel
theorem dX3_figure_44 : decode cX3_figure 44 = .ok (.iload_n 2, 1) := by decide +kernel
theorem dX3_figure_45 : decode cX3_figure 45 = .ok (.iadd, 1) := by decide +kernel
theorem dX3_figure_46 : decode cX3_figure 46 = .ok (.iconst 4, 1) := by decide +kernel
theorem dX3_figure_47 : decode cX3_figure 47 = .ok (.imul, 1) := by decide +kernel
theorem dX3_figure_48 : decode cX3_figure 48 = .ok (.iload_n 3, 1) := by decide +kernel
theorem dX3_figure_49 : decode cX3_figure 49 = .ok (.iadd, 1) := by decide +kernel
theorem dX3_figure_50 : decode cX3_figure 50 = .ok (.iaload, 1) := by decide +kernel
theorem dX3_figure_51 : decode cX3_figure 51 = .ok (.ireturn, 1) := by decide +kernel
theorem dX3_total_0 : decode cX3_total 0 = .ok (.iconst 0, 1) := by decide +kernel
theorem dX3_total_1 : decode cX3_total 1 = .ok (.istore_n 1, 1) := by decide +kernel
theorem dX3_total_2 : decode cX3_total 2 = .ok (.iconst 0, 1) := by decide +kernel
theorem dX3_total_3 : decode cX3_total 3 = .ok (.istore_n 2, 1) := by decide +kernel
theorem dX3_total_4 : decode cX3_total 4 = .ok (.iload_n 2, 1) := by decide +kernel
theorem dX3_total_5 : decode cX3_total 5 = .ok (.bipush 40, 2) := by decide +kernel
theorem dX3_total_7 : decode cX3_total 7 = .ok (.if_icmp .ge 18, 3) := by decide +kernel
theorem dX3_total_10 : decode cX3_total 10 = .ok (.iload_n 1, 1) := by decide +kernel
theorem dX3_total_11 : decode cX3_total 11 = .ok (.aload_n 0, 1) := by decide +kernel
theorem dX3_total_12 : decode cX3_total 12 = .ok (.getfield 9, 3) := by decide +kernel
theorem dX3_total_15 : decode cX3_total 15 = .ok (.iload_n 2, 1) := by decide +kernel
theorem dX3_total_16 : decode cX3_total 16 = .ok (.iaload, 1) := by decide +kernel
theorem dX3_total_17 : decode cX3_total 17 = .ok (.iadd, 1) := by decide +kernel
theorem dX3_total_18 : decode cX3_total 18 = .ok (.istore_n 1, 1) := by decide +kernel
theorem dX3_total_19 : decode cX3_total 19 = .ok (.iinc 2 1, 3) := by decide +kernel
theorem dX3_total_22 : decode cX3_total 22 = .ok (.goto (-18), 3) := by decide +kernel
theorem dX3_total_25 : decode cX3_total 25 = .ok (.iload_n 1, 1) := by decide +kernel
theorem dX3_total_26 : decode cX3_total 26 = .ok (.ireturn, 1) := by decide +kernel
set_option maxRecDepth 20000 in
theorem ggX3_hasAt_X3_size : GoodIn wsX3_hasAt wsX3_size := goodIn_r _ [5, 6, 12, 13] (by decide +kernel) (by decide +kernel)
set_option maxRecDepth 20000 in
theorem gX3_hasAt_X3_size : GoodIn wsX3_hasAt (wsV RX3 18 RX3 yX3_size wsX3_size) := goodIn_app (goodIn_of _ (by decide +kernel)) ggX3_hasAt_X3_size
set_option maxRecDepth 20000 in
theorem ggX3_hasAt_X3_figure : GoodIn wsX3_hasAt wsX3_figure := goodIn_r _ [10, 6, 11, 12, 13] (by decide +kernel) (by decide +kernel)
set_option maxRecDepth 20000 in
theorem gX3_hasAt_X3_figure : GoodIn wsX3_hasAt (wsV RX3 22 RX3 yX3_figure wsX3_figure) := goodIn_app (goodIn_of _ (by decide +kernel)) ggX3_hasAt_X3_figure
theorem dX3_hasAt_0 : decode cX3_hasAt 0 = .ok (.iconst 0, 1) := by decide +kernel
theorem dX3_hasAt_1 : decode cX3_hasAt 1 = .ok (.istore 4, 2) := by decide +kernel
theorem dX3_hasAt_3 : decode cX3_hasAt 3 = .ok (.iload 4, 2) := by decide +kernel
theorem dX3_hasAt_5 : decode cX3_hasAt 5 = .ok (.aload_n 0, 1) := by decide +kernel
theorem dX3_hasAt_6 : decode cX3_hasAt 6 = .ok (.iload_n 1, 1) := by decide +kernel
theorem dX3_hasAt_7 : decode cX3_hasAt 7 = .ok (.invokevirtual 18, 3) := by decide +kernel
theorem dX3_hasAt_10 : decode cX3_hasAt 10 = .ok (.if_icmp .ge 35, 3) := by decide +kernel
theorem dX3_hasAt_13 : decode cX3_hasAt 13 = .ok (.aload_n 0, 1) := by decide +kernel
theorem dX3_hasAt_14 : decode cX3_hasAt 14 = .ok (.iload_n 1, 1) := by decide +kernel
theorem dX3_hasAt_15 : decode cX3_hasAt 15 = .ok (.iload 4, 2) := by decide +kernel
theorem dX3_hasAt_17 : decode cX3_hasAt 17 = .ok (.iconst 0, 1) := by decide +kernel
theorem dX3_hasAt_18 : decode cX3_hasAt 18 = .ok (.invokevirtual 22, 3) := by decide +kernel
theorem dX3_hasAt_21 : decode cX3_hasAt 21 = .ok (.iload_n 2, 1) := by decide +kernel
theorem dX3_hasAt_22 : decode cX3_hasAt 22 = .ok (.if_icmp .ne 17, 3) := by decide +kernel
theorem dX3_hasAt_25 : decode cX3_hasAt 25 = .ok (.aload_n 0, 1) := by decide +kernel
theorem dX3_hasAt_26 : decode cX3_hasAt 26 = .ok (.iload_n 1, 1) := by decide +kernel
theorem dX3_hasAt_27 : decode cX3_hasAt 27 = .ok (.iload 4, 2) := by decide +kernel
theorem dX3_hasAt_29 : decode cX3_hasAt 29 = .ok (.iconst 2, 1) := by decide +kernel
theorem dX3_hasAt_30 : decode cX3_hasAt 30 = .ok (.invokevirtual 22, 3) := by decide +kernel
theorem dX3_hasAt_33 : decode cX3_hasAt 33 = .ok (.iload_n 3, 1) := by decide +kernel
theorem dX3_hasAt_34 : decode cX3_hasAt 34 = .ok (.if_icmp .ne 5, 3) := by decide +kernel
theorem dX3_hasAt_37 : decode cX3_hasAt 37 = .ok (.iconst 1, 1) := by decide +kernel
theorem dX3_hasAt_38 : decode cX3_hasAt 38 = .ok (.ireturn, 1) := by decide +kernel
theorem dX3_hasAt_39 : decode cX3_hasAt 39 = .ok (.iinc 4 1, 3) := by decide +kernel
theorem dX3_hasAt_42 : decode cX3_hasAt 42 = .ok (.goto (-39), 3) := by decide +kernel
theorem dX3_hasAt_45 : decode cX3_hasAt 45 = .ok (.iconst 0, 1) := by decide +kernel
theorem dX3_hasAt_46 : decode cX3_hasAt 46 = .ok (.ireturn, 1) := by decide +kernel
set_option maxRecDepth 20000 in
theorem ggX3_insert_X3_size : GoodIn wsX3_insert wsX3_size := goodIn_r _ [11, 6, 23, 24] (by decide +kernel) (by decide +kernel)
set_option maxRecDepth 20000 in
theorem gX3_insert_X3_size : GoodIn wsX3_insert (wsV RX3 18 RX3 yX3_size wsX3_size) := goodIn_app (goodIn_of _ (by decide +kernel)) ggX3_insert_X3_size
set_option maxRecDepth 20000 in
theorem ggX3_insert_X3_isBehind : GoodIn wsX3_insert wsX3_isBehind := goodIn_r _ [15, 16, 17, 18, 10, 19, 6, 1, 23, 24] (by decide +kernel) (by decide +kernel)
set_option maxRecDepth 20000 in
theorem gX3_insert_X3_isBehind : GoodIn wsX3_insert (wsV RX3 26 RX3 yX3_isBehind wsX3_isBehind) := goodIn_app (goodIn_of _ (by decide +kernel)) ggX3_insert_X3_isBehind
set_option maxRecDepth 20000 in
theorem ggX3_insert_X3_placeOf : GoodIn wsX3_insert wsX3_placeOf := goodIn_r _ [22] (by decide +kernel) (by decide +kernel)
set_option maxRecDepth 20000 in
theorem gX3_insert_X3_placeOf : GoodIn wsX3_insert (va_wsS RX3 30 yX3_placeOf wsX3_placeOf) := goodIn_app (goodIn_of _ (by decide +kernel)) ggX3_insert_X3_placeOf
theorem dX3_insert_0 : decode cX3_insert 0 = .ok (.aload_n 0, 1) := by decide +kernel
theorem dX3_insert_1 : decode cX3_insert 1 = .ok (.iload_n 1, 1) := by decide +kernel
theorem dX3_insert_2 : decode cX3_insert 2 = .ok (.invokevirtual 18, 3) := by decide +kernel
theorem dX3_insert_5 : decode cX3_insert 5 = .ok (.istore 6, 2) := by decide +kernel
theorem dX3_insert_7 : decode cX3_insert 7 = .ok (.iload_n 1, 1) := by decide +kernel
theorem dX3_insert_8 : decode cX3_insert 8 = .ok (.ifCond .lt 16, 3) := by decide +kernel
theorem dX3_insert_11 : decode cX3_insert 11 = .ok (.iload_n 1, 1) := by decide +kernel
theorem dX3_insert_12 : decode cX3_insert 12 = .ok (.bipush 40, 2) := by decide +kernel
theorem dX3_insert_14 : decode cX3_insert 14 = .ok (.if_icmp .ge 10, 3) := by decide +kernel
theorem dX3_insert_17 : decode cX3_insert 17 = .ok (.iload 6, 2) := by decide +kernel
theorem dX3_insert_19 : decode cX3_insert 19 = .ok (.bipush 8, 2) := by decide +kernel
theorem dX3_insert_21 : decode cX3_insert 21 = .ok (.if_icmp .lt 4, 3) := by decide +kernel
theorem dX3_insert_24 : decode cX3_insert 24 = .ok (.return_, 1) := by decide +kernel
theorem dX3_insert_25 : decode cX3_insert 25 = .ok (.iload 6, 2) := by decide +kernel
theorem dX3_insert_27 : decode cX3_insert 27 = .ok (.istore 7, 2) := by decide +kernel
theorem dX3_insert_29 : decode cX3_insert 29 = .ok (.iload 7, 2) := by decide +kernel
theorem dX3_insert_31 : decode cX3_insert 31 = .ok (.ifCond .le 50, 3) := by decide +kernel
theorem dX3_insert_34 : decode cX3_insert 34 = .ok (.aload_n 0, 1) := by decide +kernel
theorem dX3_insert_35 : decode cX3_insert 35 = .ok (.iload_n 1, 1) := by decide +kernel
theorem dX3_insert_36 : decode cX3_insert 36 = .ok (.iload 7, 2) := by decide +kernel
theorem dX3_insert_38 : decode cX3_insert 38 = .ok (.iconst 1, 1) := by decide +kernel
theorem dX3_insert_39 : decode cX3_insert 39 = .ok (.isub, 1) := by decide +kernel
theorem dX3_insert_40 : decode cX3_insert 40 = .ok (.iload_n 2, 1) := by decide +kernel
theorem dX3_insert_41 : decode cX3_insert 41 = .ok (.iload 4, 2) := by decide +kernel
theorem dX3_insert_43 : decode cX3_insert 43 = .ok (.invokevirtual 26, 3) := by decide +kernel
theorem dX3_insert_46 : decode cX3_insert 46 = .ok (.ifCond .eq 35, 3) := by decide +kernel
theorem dX3_insert_49 : decode cX3_insert 49 = .ok (.aload_n 0, 1) := by decide +kernel
theorem dX3_insert_50 : decode cX3_insert 50 = .ok (.getfield 15, 3) := by decide +kernel
theorem dX3_insert_53 : decode cX3_insert 53 = .ok (.iload_n 1, 1) := by decide +kernel
theorem dX3_insert_54 : decode cX3_insert 54 = .ok (.iload 7, 2) := by decide +kernel
theorem dX3_insert_56 : decode cX3_insert 56 = .ok (.iconst 1, 1) := by decide +kernel
theorem dX3_insert_57 : decode cX3_insert 57 = .ok (.isub, 1) := by decide +kernel
theorem dX3_insert_58 : decode cX3_insert 58 = .ok (.invokestatic 30, 3) := by decide +kernel
theorem dX3_insert_61 : decode cX3_insert 61 = .ok (.aload_n 0, 1) := by decide +kernel
theorem dX3_insert_62 : decode cX3_insert 62 = .ok (.getfield 15, 3) := by decide +kernel
theorem dX3_insert_65 : decode cX3_insert 65 = .ok (.iload_n 1, 1) := by decide +kernel
theorem dX3_insert_66 : decode cX3_insert 66 = .ok (.iload 7, 2) := by decide +kernel
theorem dX3_insert_68 : decode cX3_insert 68 = .ok (.invokestatic 30, 3) := by decide +kernel
theorem dX3_insert_71 : decode cX3_insert 71 = .ok (.iconst 4, 1) := by decide +kernel
theorem dX3_insert_72 : decode cX3_insert 72 = .ok (.invokestatic 34, 3) := by decide +kernel
theorem dX3_insert_75 : decode cX3_insert 75 = .ok (.iinc 7 (-1), 3) := by decide +kernel
theorem dX3_insert_78 : decode cX3_insert 78 = .ok (.goto (-49), 3) := by decide +kernel
theorem dX3_insert_81 : decode cX3_insert 81 = .ok (.iload_n 1, 1) := by decide +kernel
theorem dX3_insert_82 : decode cX3_insert 82 = .ok (.iload 7, 2) := by decide +kernel
theorem dX3_insert_84 : decode cX3_insert 84 = .ok (.invokestatic 30, 3) := by decide +kernel
theorem dX3_insert_87 : decode cX3_insert 87 = .ok (.istore 8, 2) := by decide +kernel
theorem dX3_insert_89 : decode cX3_insert 89 = .ok (.aload_n 0, 1) := by decide +kernel
theorem dX3_insert_90 : decode cX3_insert 90 = .ok (.getfield 15, 3) := by decide +kernel
theorem dX3_insert_93 : decode cX3_insert 93 = .ok (.iload 8, 2) := by decide +kernel
theorem dX3_insert_95 : decode cX3_insert 95 = .ok (.iconst 0, 1) := by decide +kernel
theorem dX3_insert_96 : decode cX3_insert 96 = .ok (.iadd, 1) := by decide +kernel
theorem dX3_insert_97 : decode cX3_insert 97 = .ok (.iload_n 2, 1) := by decide +kernel
theorem dX3_insert_98 : decode cX3_insert 98 = .ok (.iastore, 1) := by decide +kernel
theorem dX3_insert_99 : decode cX3_insert 99 = .ok (.aload_n 0, 1) := by decide +kernel
theorem dX3_insert_100 : decode cX3_insert 100 = .ok (.getfield 15, 3) := by decide +kernel
theorem dX3_insert_103 : decode cX3_insert 103 = .ok (.iload 8, 2) := by decide +kernel
theorem dX3_insert_105 : decode cX3_insert 105 = .ok (.iconst 1, 1) := by decide +kernel
theorem dX3_insert_106 : decode cX3_insert 106 = .ok (.iadd, 1) := by decide +kernel
theorem dX3_insert_107 : decode cX3_insert 107 = .ok (.iload_n 3, 1) := by decide +kernel
theorem dX3_insert_108 : decode cX3_insert 108 = .ok (.iastore, 1) := by decide +kernel
theorem dX3_insert_109 : decode cX3_insert 109 = .ok (.aload_n 0, 1) := by decide +kernel
theorem dX3_insert_110 : decode cX3_insert 110 = .ok (.getfield 15, 3) := by decide +kernel
theorem dX3_insert_113 : decode cX3_insert 113 = .ok (.iload 8, 2) := by decide +kernel
theorem dX3_insert_115 : decode cX3_insert 115 = .ok (.iconst 2, 1) := by decide +kernel
theorem dX3_insert_116 : decode cX3_insert 116 = .ok (.iadd, 1) := by decide +kernel
theorem dX3_insert_117 : decode cX3_insert 117 = .ok (.iload 4, 2) := by decide +kernel
theorem dX3_insert_119 : decode cX3_insert 119 = .ok (.iastore, 1) := by decide +kernel
theorem dX3_insert_120 : decode cX3_insert 120 = .ok (.aload_n 0, 1) := by decide +kernel
theorem dX3_insert_121 : decode cX3_insert 121 = .ok (.getfield 15, 3) := by decide +kernel
theorem dX3_insert_124 : decode cX3_insert 124 = .ok (.iload 8, 2) := by decide +kernel
theorem dX3_insert_126 : decode cX3_insert 126 = .ok (.iconst 3, 1) := by decide +kernel
theorem dX3_insert_127 : decode cX3_insert 127 = .ok (.iadd, 1) := by decide +kernel
theorem dX3_insert_128 : decode cX3_insert 128 = .ok (.iload 5, 2) := by decide +kernel
theorem dX3_insert_130 : decode cX3_insert 130 = .ok (.iastore, 1) := by decide +kernel
theorem dX3_insert_131 : decode cX3_insert 131 = .ok (.aload_n 0, 1) := by decide +kernel
theorem dX3_insert_132 : decode cX3_insert 132 = .ok (.getfield 9, 3) := by decide +kernel
theorem dX3_insert_135 : decode cX3_insert 135 = .ok (.iload_n 1, 1) := by decide +kernel
theorem dX3_insert_136 : decode cX3_insert 136 = .ok (.iload 6, 2) := by decide +kernel
theorem dX3_insert_138 : decode cX3_insert 138 = .ok (.iconst 1, 1) := by decide +kernel
theorem dX3_insert_139 : decode cX3_insert 139 = .ok (.iadd, 1) := by decide +kernel
theorem dX3_insert_140 : decode cX3_insert 140 = .ok (.iastore, 1) := by decide +kernel
theorem dX3_insert_141 : decode cX3_insert 141 = .ok (.return_, 1) := by decide +kernel
theorem dX3_clearFrom_0 : decode cX3_clearFrom 0 = .ok (.iconst 0, 1) := by decide +kernel
theorem dX3_clearFrom_1 : decode cX3_clearFrom 1 = .ok (.iload_n 1, 1) := by decide +kernel
theorem dX3_clearFrom_2 : decode cX3_clearFrom 2 = .ok (.invokestatic 40, 3) := by decide +kernel
theorem dX3_clearFrom_5 : decode cX3_clearFrom 5 = .ok (.istore_n 3, 1) := by decide +kernel
theorem dX3_clearFrom_6 : decode cX3_clearFrom 6 = .ok (.iload_n 3, 1) := by decide +kernel
theorem dX3_clearFrom_7 : decode cX3_clearFrom 7 = .ok (.iload_n 2, 1) := by decide +kernel
theorem dX3_clearFrom_8 : decode cX3_clearFrom 8 = .ok (.if_icmp .ge 22, 3) := by decide +kernel
theorem dX3_clearFrom_11 : decode cX3_clearFrom 11 = .ok (.iload_n 3, 1) := by decide +kernel
theorem dX3_clearFrom_12 : decode cX3_clearFrom 12 = .ok (.bipush 40, 2) := by decide +kernel
theorem dX3_clearFrom_14 : decode cX3_clearFrom 14 = .ok (.if_icmp .ge 16, 3) := by decide +kernel
theorem dX3_clearFrom_17 : decode cX3_clearFrom 17 = .ok (.aload_n 0, 1) := by decide +kernel
theorem dX3_clearFrom_18 : decode cX3_clearFrom 18 = .ok (.getfield 9, 3) := by decide +kernel
theorem dX3_clearFrom_21 : decode cX3_clearFrom 21 = .ok (.iload_n 3, 1) := by decide +kernel
theorem dX3_clearFrom_22 : decode cX3_clearFrom 22 = .ok (.iconst 0, 1) := by decide +kernel
theorem dX3_clearFrom_23 : decode cX3_clearFrom 23 = .ok (.iastore, 1) := by decide +kernel
theorem dX3_clearFrom_24 : decode cX3_clearFrom 24 = .ok (.iinc 3 1, 3) := by decide +kernel
theorem dX3_clearFrom_27 : decode cX3_clearFrom 27 = .ok (.goto (-21), 3) := by decide +kernel
theorem dX3_clearFrom_30 : decode cX3_clearFrom 30 = .ok (.return_, 1) := by decide +kernel
set_option maxRecDepth 20000 in
theorem ggX3_unlikeStarts_X3_size : GoodIn wsX3_unlikeStarts wsX3_size := goodIn_r _ [5, 6, 12, 13] (by decide +kernel) (by decide +kernel)
set_option maxRecDepth 20000 in
theorem gX3_unlikeStarts_X3_size : GoodIn wsX3_unlikeStarts (wsV RX3 18 RX3 yX3_size wsX3_size) := goodIn_app (goodIn_of _ (by decide +kernel)) ggX3_unlikeStarts_X3_size
set_option maxRecDepth 20000 in
theorem ggX3_unlikeStarts_X3_figure : GoodIn wsX3_unlikeStarts wsX3_figure := goodIn_r _ [10, 6, 11, 12, 13] (by decide +kernel) (by decide +kernel)
set_option maxRecDepth 20000 in
theorem gX3_unlikeStarts_X3_figure : GoodIn wsX3_unlikeStarts (wsV RX3 22 RX3 yX3_figure wsX3_figure) := goodIn_app (goodIn_of _ (by decide +kernel)) ggX3_unlikeStarts_X3_figure
theorem dX3_unlikeStarts_0 : decode cX3_unlikeStarts 0 = .ok (.iconst 0, 1) := by decide +kernel
theorem dX3_unlikeStarts_1 : decode cX3_unlikeStarts 1 = .ok (.istore_n 2, 1) := by decide +kernel
theorem dX3_unlikeStarts_2 : decode cX3_unlikeStarts 2 = .ok (.iconst 0, 1) := by decide +kernel
theorem dX3_unlikeStarts_3 : decode cX3_unlikeStarts 3 = .ok (.istore_n 3, 1) := by decide +kernel
theorem dX3_unlikeStarts_4 : decode cX3_unlikeStarts 4 = .ok (.iload_n 3, 1) := by decide +kernel
theorem dX3_unlikeStarts_5 : decode cX3_unlikeStarts 5 = .ok (.aload_n 0, 1) := by decide +kernel
theorem dX3_unlikeStarts_6 : decode cX3_unlikeStarts 6 = .ok (.iload_n 1, 1) := by decide +kernel
theorem dX3_unlikeStarts_7 : decode cX3_unlikeStarts 7 = .ok (.invokevirtual 18, 3) := by decide +kernel
theorem dX3_unlikeStarts_10 : decode cX3_unlikeStarts 10 = .ok (.if_icmp .ge 35, 3) := by decide +kernel
theorem dX3_unlikeStarts_13 : decode cX3_unlikeStarts 13 = .ok (.iload_n 3, 1) := by decide +kernel
theorem dX3_unlikeStarts_14 : decode cX3_unlikeStarts 14 = .ok (.ifCond .eq 22, 3) := by decide +kernel
theorem dX3_unlikeStarts_17 : decode cX3_unlikeStarts 17 = .ok (.aload_n 0, 1) := by decide +kernel
theorem dX3_unlikeStarts_18 : decode cX3_unlikeStarts 18 = .ok (.iload_n 1, 1) := by decide +kernel
theorem dX3_unlikeStarts_19 : decode cX3_unlikeStarts 19 = .ok (.iload_n 3, 1) := by decide +kernel
theorem dX3_unlikeStarts_20 : decode cX3_unlikeStarts 20 = .ok (.iconst 0, 1) := by decide +kernel
theorem dX3_unlikeStarts_21 : decode cX3_unlikeStarts 21 = .ok (.invokevirtual 22, 3) := by decide +kernel
theorem dX3_unlikeStarts_24 : decode cX3_unlikeStarts 24 = .ok (.aload_n 0, 1) := by decide +kernel
theorem dX3_unlikeStarts_25 : decode cX3_unlikeStarts 25 = .ok (.iload_n 1, 1) := by decide +kernel
theorem dX3_unlikeStarts_26 : decode cX3_unlikeStarts 26 = .ok (.iload_n 3, 1) := by decide +kernel
theorem dX3_unlikeStarts_27 : decode cX3_unlikeStarts 27 = .ok (.iconst 1, 1) := by decide +kernel
theorem dX3_unlikeStarts_28 : decode cX3_unlikeStarts 28 = .ok (.isub, 1) := by decide +kernel
theorem dX3_unlikeStarts_29 : decode cX3_unlikeStarts 29 = .ok (.iconst 0, 1) := by decide +kernel
theorem dX3_unlikeStarts_30 : decode cX3_unlikeStarts 30 = .ok (.invokevirtual 22, 3) := by decide +kernel
theorem dX3_unlikeStarts_33 : decode cX3_unlikeStarts 33 = .ok (.if_icmp .eq 6, 3) := by decide +kernel
theorem dX3_unlikeStarts_36 : decode cX3_unlikeStarts 36 = .ok (.iinc 2 1, 3) := by decide +kernel
theorem dX3_unlikeStarts_39 : decode cX3_unlikeStarts 39 = .ok (.iinc 3 1, 3) := by decide +kernel
theorem dX3_unlikeStarts_42 : decode cX3_unlikeStarts 42 = .ok (.goto (-38), 3) := by decide +kernel
theorem dX3_unlikeStarts_45 : decode cX3_unlikeStarts 45 = .ok (.iload_n 2, 1) := by decide +kernel
theorem dX3_unlikeStarts_46 : decode cX3_unlikeStarts 46 = .ok (.ireturn, 1) := by decide +kernel
set_option maxRecDepth 20000 in
theorem ggX3_isAlike_X3_size : GoodIn wsX3_isAlike wsX3_size := goodIn_r _ [5, 6, 12, 13] (by decide +kernel) (by decide +kernel)
set_option maxRecDepth 20000 in
theorem gX3_isAlike_X3_size : GoodIn wsX3_isAlike (wsV RX3 18 RX3 yX3_size wsX3_size) := goodIn_app (goodIn_of _ (by decide +kernel)) ggX3_isAlike_X3_size
set_option maxRecDepth 20000 in
theorem ggX3_isAlike_X3_figure : GoodIn wsX3_isAlike wsX3_figure := goodIn_r _ [10, 6, 11, 12, 13] (by decide +kernel) (by decide +kernel)
set_option maxRecDepth 20000 in
theorem gX3_isAlike_X3_figure : GoodIn wsX3_isAlike (wsV RX3 22 RX3 yX3_figure wsX3_figure) := goodIn_app (goodIn_of _ (by decide +kernel)) ggX3_isAlike_X3_figure
theorem dX3_isAlike_0 : decode cX3_isAlike 0 = .ok (.aload_n 0, 1) := by decide +kernel
theorem dX3_isAlike_1 : decode cX3_isAlike 1 = .ok (.iload_n 2, 1) := by decide +kernel
theorem dX3_isAlike_2 : decode cX3_isAlike 2 = .ok (.invokevirtual 18, 3) := by decide +kernel
theorem dX3_isAlike_5 : decode cX3_isAlike 5 = .ok (.aload_n 1, 1) := by decide +kernel
theorem dX3_isAlike_6 : decode cX3_isAlike 6 = .ok (.iload_n 2, 1) := by decide +kernel
theorem dX3_isAlike_7 : decode cX3_isAlike 7 = .ok (.invokevirtual 18, 3) := by decide +kernel
theorem dX3_isAlike_10 : decode cX3_isAlike 10 = .ok (.if_icmp .eq 5, 3) := by decide +kernel
theorem dX3_isAlike_13 : decode cX3_isAlike 13 = .ok (.iconst 0, 1) := by decide +kernel
theorem dX3_isAlike_14 : decode cX3_isAlike 14 = .ok (.ireturn, 1) := by decide +kernel
theorem dX3_isAlike_15 : decode cX3_isAlike 15 = .ok (.iconst 0, 1) := by decide +kernel
theorem dX3_isAlike_16 : decode cX3_isAlike 16 = .ok (.istore_n 3, 1) := by decide +kernel
theorem dX3_isAlike_17 : decode cX3_isAlike 17 = .ok (.iload_n 3, 1) := by decide +kernel
theorem dX3_isAlike_18 : decode cX3_isAlike 18 = .ok (.aload_n 0, 1) := by decide +kernel
theorem dX3_isAlike_19 : decode cX3_isAlike 19 = .ok (.iload_n 2, 1) := by decide +kernel
theorem dX3_isAlike_20 : decode cX3_isAlike 20 = .ok (.invokevirtual 18, 3) := by decide +kernel
theorem dX3_isAlike_23 : decode cX3_isAlike 23 = .ok (.if_icmp .ge 45, 3) := by decide +kernel
theorem dX3_isAlike_26 : decode cX3_isAlike 26 = .ok (.iconst 0, 1) := by decide +kernel
theorem dX3_isAlike_27 : decode cX3_isAlike 27 = .ok (.istore 4, 2) := by decide +kernel
theorem dX3_isAlike_29 : decode cX3_isAlike 29 = .ok (.iload 4, 2) := by decide +kernel
theorem dX3_isAlike_31 : decode cX3_isAlike 31 = .ok (.iconst 4, 1) := by decide +kernel
theorem dX3_isAlike_32 : decode cX3_isAlike 32 = .ok (.if_icmp .ge 30, 3) := by decide +kernel
theorem dX3_isAlike_35 : decode cX3_isAlike 35 = .ok (.aload_n 0, 1) := by decide +kernel
theorem dX3_isAlike_36 : decode cX3_isAlike 36 = .ok (.iload_n 2, 1) := by decide +kernel
theorem dX3_isAlike_37 : decode cX3_isAlike 37 = .ok (.iload_n 3, 1) := by decide +kernel
theorem dX3_isAlike_38 : decode cX3_isAlike 38 = .ok (.iload 4, 2) := by decide +kernel
theorem dX3_isAlike_40 : decode cX3_isAlike 40 = .ok (.invokevirtual 22, 3) := by decide +kernel
theorem dX3_isAlike_43 : decode cX3_isAlike 43 = .ok (.aload_n 1, 1) := by decide +kernel
theorem dX3_isAlike_44 : decode cX3_isAlike 44 = .ok (.iload_n 2, 1) := by decide +kernel
theorem dX3_isAlike_45 : decode cX3_isAlike 45 = .ok (.iload_n 3, 1) := by decide +kernel
theorem dX3_isAlike_46 : decode cX3_isAlike 46 = .ok (.iload 4, 2) := by decide +kernel
theorem dX3_isAlike_48 : decode cX3_isAlike 48 = .ok (.invokevirtual 22, 3) := by decide +kernel
theorem dX3_isAlike_51 : decode cX3_isAlike 51 = .ok (.if_icmp .eq 5, 3) := by decide +kernel
theorem dX3_isAlike_54 : decode cX3_isAlike 54 = .ok (.iconst 0, 1) := by decide +kernel
theorem dX3_isAlike_55 : decode cX3_isAlike 55 = .ok (.ireturn, 1) := by decide +kernel
theorem dX3_isAlike_56 : decode cX3_isAlike 56 = .ok (.iinc 4 1, 3) := by decide +kernel
theorem dX3_isAlike_59 : decode cX3_isAlike 59 = .ok (.goto (-30), 3) := by decide +kernel
theorem dX3_isAlike_62 : decode cX3_isAlike 62 = .ok (.iinc 3 1, 3) := by decide +kernel
theorem dX3_isAlike_65 : decode cX3_isAlike 65 = .ok (.goto (-48), 3) := by decide +kernel
theorem dX3_isAlike_68 : decode cX3_isAlike 68 = .ok (.iconst 1, 1) := by decide +kernel
theorem dX3_isAlike_69 : decode cX3_isAlike 69 = .ok (.ireturn, 1) := by decide +kernel
set_option maxRecDepth 20000 in
theorem ggX3_hasRhythmIn_X3_size : GoodIn wsX3_hasRhythmIn wsX3_size := goodIn_r _ [5, 6, 16, 17] (by decide +kernel) (by decide +kernel)
set_option maxRecDepth 20000 in
theorem gX3_hasRhythmIn_X3_size : GoodIn wsX3_hasRhythmIn (wsV RX3 18 RX3 yX3_size wsX3_size) := goodIn_app (goodIn_of _ (by decide +kernel)) ggX3_hasRhythmIn_X3_size
set_option maxRecDepth 20000 in
theorem ggX3_hasRhythmIn_X3_figure : GoodIn wsX3_hasRhythmIn wsX3_figure := goodIn_r _ [10, 6, 11, 16, 17] (by decide +kernel) (by decide +kernel)
set_option maxRecDepth 20000 in
theorem gX3_hasRhythmIn_X3_figure : GoodIn wsX3_hasRhythmIn (wsV RX3 22 RX3 yX3_figure wsX3_figure) := goodIn_app (goodIn_of _ (by decide +kernel)) ggX3_hasRhythmIn_X3_figure
set_option maxRecDepth 20000 in
theorem ggX3_hasRhythmIn_X3_hasRhythm : GoodIn wsX3_hasRhythmIn wsX3_hasRhythm := goodIn_r _ [15, 1, 2, 3, 4, 5, 6, 7, 8, 9, 10, 11, 16, 17] (by decide +kernel) (by decide +kernel)
set_option maxRecDepth 20000 in
theorem gX3_hasRhythmIn_X3_hasRhythm : GoodIn wsX3_hasRhythmIn (wsV RX3 45 RX3 yX3_hasRhythm wsX3_hasRhythm) := goodIn_app (goodIn_of _ (by decide +kernel)) ggX3_hasRhythmIn_X3_hasRhythm
theorem dX3_hasRhythmIn_0 : decode cX3_hasRhythmIn 0 = .ok (.iconst 0, 1) := by decide +kernel
theorem dX3_hasRhythmIn_1 : decode cX3_hasRhythmIn 1 = .ok (.istore_n 3, 1) := by decide +kernel
theorem dX3_hasRhythmIn_2 : decode cX3_hasRhythmIn 2 = .ok (.iload_n 3, 1) := by decide +kernel
theorem dX3_hasRhythmIn_3 : decode cX3_hasRhythmIn 3 = .ok (.aload_n 0, 1) := by decide +kernel
theorem dX3_hasRhythmIn_4 : decode cX3_hasRhythmIn 4 = .ok (.iload_n 2, 1) := by decide +kernel
theorem dX3_hasRhythmIn_5 : decode cX3_hasRhythmIn 5 = .ok (.invokevirtual 18, 3) := by decide +kernel
theorem dX3_hasRhythmIn_8 : decode cX3_hasRhythmIn 8 = .ok (.if_icmp .ge 33, 3) := by decide +kernel
theorem dX3_hasRhythmIn_11 : decode cX3_hasRhythmIn 11 = .ok (.aload_n 1, 1) := by decide +kernel
theorem dX3_hasRhythmIn_12 : decode cX3_hasRhythmIn 12 = .ok (.iload_n 2, 1) := by decide +kernel
theorem dX3_hasRhythmIn_13 : decode cX3_hasRhythmIn 13 = .ok (.aload_n 0, 1) := by decide +kernel
theorem dX3_hasRhythmIn_14 : decode cX3_hasRhythmIn 14 = .ok (.iload_n 2, 1) := by decide +kernel
theorem dX3_hasRhythmIn_15 : decode cX3_hasRhythmIn 15 = .ok (.iload_n 3, 1) := by decide +kernel
theorem dX3_hasRhythmIn_16 : decode cX3_hasRhythmIn 16 = .ok (.iconst 0, 1) := by decide +kernel
theorem dX3_hasRhythmIn_17 : decode cX3_hasRhythmIn 17 = .ok (.invokevirtual 22, 3) := by decide +kernel
theorem dX3_hasRhythmIn_20 : decode cX3_hasRhythmIn 20 = .ok (.aload_n 0, 1) := by decide +kernel
theorem dX3_hasRhythmIn_21 : decode cX3_hasRhythmIn 21 = .ok (.iload_n 2, 1) := by decide +kernel
theorem dX3_hasRhythmIn_22 : decode cX3_hasRhythmIn 22 = .ok (.iload_n 3, 1) := by decide +kernel
theorem dX3_hasRhythmIn_23 : decode cX3_hasRhythmIn 23 = .ok (.iconst 1, 1) := by decide +kernel
theorem dX3_hasRhythmIn_24 : decode cX3_hasRhythmIn 24 = .ok (.invokevirtual 22, 3) := by decide +kernel
theorem dX3_hasRhythmIn_27 : decode cX3_hasRhythmIn 27 = .ok (.invokevirtual 45, 3) := by decide +kernel
theorem dX3_hasRhythmIn_30 : decode cX3_hasRhythmIn 30 = .ok (.ifCond .ne 5, 3) := by decide +kernel
theorem dX3_hasRhythmIn_33 : decode cX3_hasRhythmIn 33 = .ok (.iconst 0, 1) := by decide +kernel
theorem dX3_hasRhythmIn_34 : decode cX3_hasRhythmIn 34 = .ok (.ireturn, 1) := by decide +kernel
theorem dX3_hasRhythmIn_35 : decode cX3_hasRhythmIn 35 = .ok (.iinc 3 1, 3) := by decide +kernel
theorem dX3_hasRhythmIn_38 : decode cX3_hasRhythmIn 38 = .ok (.goto (-36), 3) := by decide +kernel
theorem dX3_hasRhythmIn_41 : decode cX3_hasRhythmIn 41 = .ok (.iconst 1, 1) := by decide +kernel
theorem dX3_hasRhythmIn_42 : decode cX3_hasRhythmIn 42 = .ok (.ireturn, 1) := by decide +kernel
set_option maxRecDepth 20000 in
theorem ggX3_hasRhythm_X3_size : GoodIn wsX3_hasRhythm wsX3_size := goodIn_r _ [5, 6, 12, 13] (by decide +kernel) (by decide +kernel)
set_option maxRecDepth 20000 in
theorem gX3_hasRhythm_X3_size : GoodIn wsX3_hasRhythm (wsV RX3 18 RX3 yX3_size wsX3_size) := goodIn_app (goodIn_of _ (by decide +kernel)) ggX3_hasRhythm_X3_size
set_option maxRecDepth 20000 in
theorem ggX3_hasRhythm_X3_figure : GoodIn wsX3_hasRhythm wsX3_figure := goodIn_r _ [10, 6, 11, 12, 13] (by decide +kernel) (by decide +kernel)
set_option maxRecDepth 20000 in
theorem gX3_hasRhythm_X3_figure : GoodIn wsX3_hasRhythm (wsV RX3 22 RX3 yX3_figure wsX3_figure) := goodIn_app (goodIn_of _ (by decide +kernel)) ggX3_hasRhythm_X3_figure
theorem dX3_hasRhythm_0 : decode cX3_hasRhythm 0 = .ok (.iconst 0, 1) := by decide +kernel
theorem dX3_hasRhythm_1 : decode cX3_hasRhythm 1 = .ok (.istore 4, 2) := by decide +kernel
theorem dX3_hasRhythm_3 : decode cX3_hasRhythm 3 = .ok (.iload 4, 2) := by decide +kernel
theorem dX3_hasRhythm_5 : decode cX3_hasRhythm 5 = .ok (.aload_n 0, 1) := by decide +kernel
theorem dX3_hasRhythm_6 : decode cX3_hasRhythm 6 = .ok (.iload_n 1, 1) := by decide +kernel
theorem dX3_hasRhythm_7 : decode cX3_hasRhythm 7 = .ok (.invokevirtual 18, 3) := by decide +kernel
theorem dX3_hasRhythm_10 : decode cX3_hasRhythm 10 = .ok (.if_icmp .ge 35, 3) := by decide +kernel
theorem dX3_hasRhythm_13 : decode cX3_hasRhythm 13 = .ok (.aload_n 0, 1) := by decide +kernel
theorem dX3_hasRhythm_14 : decode cX3_hasRhythm 14 = .ok (.iload_n 1, 1) := by decide +kernel
theorem dX3_hasRhythm_15 : decode cX3_hasRhythm 15 = .ok (.iload 4, 2) := by decide +kernel
theorem dX3_hasRhythm_17 : decode cX3_hasRhythm 17 = .ok (.iconst 0, 1) := by decide +kernel
theorem dX3_hasRhythm_18 : decode cX3_hasRhythm 18 = .ok (.invokevirtual 22, 3) := by decide +kernel
theorem dX3_hasRhythm_21 : decode cX3_hasRhythm 21 = .ok (.iload_n 2, 1) := by decide +kernel
theorem dX3_hasRhythm_22 : decode cX3_hasRhythm 22 = .ok (.if_icmp .ne 17, 3) := by decide +kernel
theorem dX3_hasRhythm_25 : decode cX3_hasRhythm 25 = .ok (.aload_n 0, 1) := by decide +kernel
theorem dX3_hasRhythm_26 : decode cX3_hasRhythm 26 = .ok (.iload_n 1, 1) := by decide +kernel
theorem dX3_hasRhythm_27 : decode cX3_hasRhythm 27 = .ok (.iload 4, 2) := by decide +kernel
theorem dX3_hasRhythm_29 : decode cX3_hasRhythm 29 = .ok (.iconst 1, 1) := by decide +kernel
theorem dX3_hasRhythm_30 : decode cX3_hasRhythm 30 = .ok (.invokevirtual 22, 3) := by decide +kernel
theorem dX3_hasRhythm_33 : decode cX3_hasRhythm 33 = .ok (.iload_n 3, 1) := by decide +kernel
theorem dX3_hasRhythm_34 : decode cX3_hasRhythm 34 = .ok (.if_icmp .ne 5, 3) := by decide +kernel
theorem dX3_hasRhythm_37 : decode cX3_hasRhythm 37 = .ok (.iconst 1, 1) := by decide +kernel
theorem dX3_hasRhythm_38 : decode cX3_hasRhythm 38 = .ok (.ireturn, 1) := by decide +kernel
theorem dX3_hasRhythm_39 : decode cX3_hasRhythm 39 = .ok (.iinc 4 1, 3) := by decide +kernel
theorem dX3_hasRhythm_42 : decode cX3_hasRhythm 42 = .ok (.goto (-39), 3) := by decide +kernel
theorem dX3_hasRhythm_45 : decode cX3_hasRhythm 45 = .ok (.iconst 0, 1) := by decide +kernel
theorem dX3_hasRhythm_46 : decode cX3_hasRhythm 46 = .ok (.ireturn, 1) := by decide +kernel
set_option maxRecDepth 20000 in
theorem ggX3_isBehind_X3_figure : GoodIn wsX3_isBehind wsX3_figure := goodIn_r _ [5, 6, 7, 8, 9] (by decide +kernel) (by decide +kernel)
set_option maxRecDepth 20000 in
theorem gX3_isBehind_X3_figure : GoodIn wsX3_isBehind (wsV RX3 22 RX3 yX3_figure wsX3_figure) := goodIn_app (goodIn_of _ (by decide +kernel)) ggX3_isBehind_X3_figure
theorem dX3_isBehind_0 : decode cX3_isBehind 0 = .ok (.aload_n 0, 1) := by decide +kernel
theorem dX3_isBehind_1 : decode cX3_isBehind 1 = .ok (.iload_n 1, 1) := by decide +kernel
theorem dX3_isBehind_2 : decode cX3_isBehind 2 = .ok (.iload_n 2, 1) := by decide +kernel
theorem dX3_isBehind_3 : decode cX3_isBehind 3 = .ok (.iconst 0, 1) := by decide +kernel
theorem dX3_isBehind_4 : decode cX3_isBehind 4 = .ok (.invokevirtual 22, 3) := by decide +kernel
theorem dX3_isBehind_7 : decode cX3_isBehind 7 = .ok (.istore 5, 2) := by decide +kernel
theorem dX3_isBehind_9 : decode cX3_isBehind 9 = .ok (.iload 5, 2) := by decide +kernel
theorem dX3_isBehind_11 : decode cX3_isBehind 11 = .ok (.iload_n 3, 1) := by decide +kernel
theorem dX3_isBehind_12 : decode cX3_isBehind 12 = .ok (.if_icmp .gt 21, 3) := by decide +kernel
theorem dX3_isBehind_15 : decode cX3_isBehind 15 = .ok (.iload 5, 2) := by decide +kernel
theorem dX3_isBehind_17 : decode cX3_isBehind 17 = .ok (.iload_n 3, 1) := by decide +kernel
theorem dX3_isBehind_18 : decode cX3_isBehind 18 = .ok (.if_icmp .ne 19, 3) := by decide +kernel
theorem dX3_isBehind_21 : decode cX3_isBehind 21 = .ok (.aload_n 0, 1) := by decide +kernel
theorem dX3_isBehind_22 : decode cX3_isBehind 22 = .ok (.iload_n 1, 1) := by decide +kernel
theorem dX3_isBehind_23 : decode cX3_isBehind 23 = .ok (.iload_n 2, 1) := by decide +kernel
theorem dX3_isBehind_24 : decode cX3_isBehind 24 = .ok (.iconst 2, 1) := by decide +kernel
theorem dX3_isBehind_25 : decode cX3_isBehind 25 = .ok (.invokevirtual 22, 3) := by decide +kernel
theorem dX3_isBehind_28 : decode cX3_isBehind 28 = .ok (.iload 4, 2) := by decide +kernel
theorem dX3_isBehind_30 : decode cX3_isBehind 30 = .ok (.if_icmp .le 7, 3) := by decide +kernel
theorem dX3_isBehind_33 : decode cX3_isBehind 33 = .ok (.iconst 1, 1) := by decide +kernel
theorem dX3_isBehind_34 : decode cX3_isBehind 34 = .ok (.goto 4, 3) := by decide +kernel
theorem dX3_isBehind_37 : decode cX3_isBehind 37 = .ok (.iconst 0, 1) := by decide +kernel
theorem dX3_isBehind_38 : decode cX3_isBehind 38 = .ok (.ireturn, 1) := by decide +kernel
theorem dX3_placeOf_0 : decode cX3_placeOf 0 = .ok (.iload_n 0, 1) := by decide +kernel
theorem dX3_placeOf_1 : decode cX3_placeOf 1 = .ok (.bipush 8, 2) := by decide +kernel
theorem dX3_placeOf_3 : decode cX3_placeOf 3 = .ok (.imul, 1) := by decide +kernel
theorem dX3_placeOf_4 : decode cX3_placeOf 4 = .ok (.iload_n 1, 1) := by decide +kernel
theorem dX3_placeOf_5 : decode cX3_placeOf 5 = .ok (.iadd, 1) := by decide +kernel
theorem dX3_placeOf_6 : decode cX3_placeOf 6 = .ok (.iconst 4, 1) := by decide +kernel
theorem dX3_placeOf_7 : decode cX3_placeOf 7 = .ok (.imul, 1) := by decide +kernel
theorem dX3_placeOf_8 : decode cX3_placeOf 8 = .ok (.ireturn, 1) := by decide +kernel
theorem kX3_init_9 : Cond.fieldLink RX3 9 (TX3 0).1 (TX3 0).2.1 (TX3 0).2.2.1 ∈ wsX3_init := by decide +kernel
theorem kX3_init_15 : Cond.fieldLink RX3 15 (TX3 1).1 (TX3 1).2.1 (TX3 1).2.2.1 ∈ wsX3_init := by decide +kernel
theorem iX3_init_X3 : ∀ w ∈ u_ws RX3 TX3 2, w ∈ wsX3_init := by decide +kernel
theorem kaX3_init_I : Cond.arrayClass .int ∈ wsX3_init := by decide +kernel
theorem kqX3_init : Cond.code objectInit ⟨#[0xb1]⟩ 1 none ∈ wsX3_init := by decide +kernel
theorem kpX3_init : Cond.instanceMethod objectInit ∈ wsX3_init := by decide +kernel
theorem koX3_init : Cond.methodLink RX3 3 objectInit ∈ wsX3_init := by decide +kernel
set_option maxHeartbeats 4000000 in
set_option maxRecDepth 100000 in
theorem RX3_init (l : Launch) (D : va_G) (g : q_A) (S : q_S) (a0 : Nat) (Q : q_S → Prop) (h : wX3_init a0 Q S) : q_Mv l yX3_init wsX3_init rmX3_init D g [.ref a0] S Q := by
  refine q_Mv.of (cc := cX3_init) (nL := 1) (by decide +kernel) rfl (Nat.le_of_ble_eq_true rfl) rfl ?_
  intro p e s m args below meth c ls A C hr hnm hp hl
  have C : q_X p s m args meth c cX3_init 1 RX3 wsX3_init D g A := C
  have hx := C.1
  have hb := C.2.1
  have hl : q_l ls 1 [(0, .ref a0)] := hl
  unfold wX3_init at h
  refine lv_aload_n hx hb dX3_init_0 rfl (q_at hl 0 rfl) ?_
  refine q_objI C koX3_init kpX3_init kqX3_init hl.1.1 dX3_init_1 (Nat.le_of_ble_eq_true rfl) (Nat.le_of_ble_eq_true rfl) ?_
  refine lv_aload_n hx hb dX3_init_4 rfl (q_at hl 0 rfl) ?_
  refine lv_bipush (v := 40) hx hb dX3_init_5 (by decide) ?_
  refine q_rNI (N' := 40) C hp h kaX3_init_I (by decide) (by decide) (by decide) (Nat.le_of_ble_eq_true rfl) (Nat.le_of_ble_eq_true rfl) dX3_init_7 (fun q_1 S_2 H h hp => ?_)
  refine W.widen (k := 1) (n := 40) (Nat.le_of_ble_eq_true rfl) (Nat.le_of_ble_eq_true rfl) ?_
  refine q_fP C hp h hnm tyX3 tyX3_ok nmX3 rfl iX3_init_X3 (by decide) kX3_init_9 rfl rfl rfl rfl rfl dX3_init_9 (fun S_3 H locs h hp => ?_)
  refine lv_aload_n hx hb dX3_init_12 rfl (q_at hl 0 rfl) ?_
  refine lv_sipush (v := 1280) hx hb dX3_init_13 (by decide) ?_
  refine q_rNI (N' := 1280) C hp h kaX3_init_I (by decide) (by decide) (by decide) (Nat.le_of_ble_eq_true rfl) (Nat.le_of_ble_eq_true rfl) dX3_init_16 (fun q_4 S_5 H h hp => ?_)
  refine W.widen (k := 2) (n := 1320) (Nat.le_of_ble_eq_true rfl) (Nat.le_of_ble_eq_true rfl) ?_
  refine q_fP C hp h hnm tyX3 tyX3_ok nmX3 rfl iX3_init_X3 (by decide) kX3_init_15 rfl rfl rfl rfl rfl dX3_init_18 (fun S_6 H locs h hp => ?_)
  refine W.widen (k := rmX3_init.cells) (n := rmX3_init.slots) (Nat.le_of_ble_eq_true rfl) (Nat.le_of_ble_eq_true rfl) ?_
  exact q_vret C hp hr h dX3_init_21
theorem kX3_clearFrom_9 : Cond.fieldLink RX3 9 (TX3 0).1 (TX3 0).2.1 (TX3 0).2.2.1 ∈ wsX3_clearFrom := by decide +kernel
theorem iX3_clearFrom_X3 : ∀ w ∈ u_ws RX3 TX3 2, w ∈ wsX3_clearFrom := by decide +kernel
theorem kmax4X3_clearFrom : Cond.code Lib.Math.max.name Lib.Math.max.code 2 (some .int) ∈ wsX3_clearFrom := by decide +kernel
theorem kmax3X3_clearFrom : Cond.initialized "java/lang/Math" ∈ wsX3_clearFrom := by decide +kernel
theorem kmax1X3_clearFrom : Cond.methodLink RX3 40 Lib.Math.max.name ∈ wsX3_clearFrom := by decide +kernel
theorem kmax2X3_clearFrom : Cond.static Lib.Math.max.name ∈ wsX3_clearFrom := by decide +kernel
set_option maxHeartbeats 4000000 in
set_option maxRecDepth 100000 in
theorem RX3_clearFrom (l : Launch) (D : va_G) (g : q_A) (S : q_S) (a0 : Nat) (x1 : Int32) (x2 : Int32) (Q : q_S → Prop) (h : wX3_clearFrom a0 x1 x2 Q S) : q_Mv l yX3_clearFrom wsX3_clearFrom rmX3_clearFrom D g [.ref a0, .int x1, .int x2] S Q := by
  refine q_Mv.of (cc := cX3_clearFrom) (nL := 4) (by decide +kernel) rfl (Nat.le_of_ble_eq_true rfl) rfl ?_
  intro p e s m args below meth c ls A C hr hnm hp hl
  have C : q_X p s m args meth c cX3_clearFrom 4 RX3 wsX3_clearFrom D g A := C
  have hx := C.1
  have hb := C.2.1
  have hl : q_l ls 4 [(0, .ref a0), (1, .int x1), (2, .int x2)] := hl
  have j6 : ∀ (n : Nat), ∀ (a0 : Nat) (x2 : Int32) (x3 : Int32) (S : q_S) (H : Heap) (locs : List Loc) (ls : Array Slot), lX3_clearFrom_b6 Q n a0 x2 x3 S → q_P D g A s.heap S H locs → q_l ls 4 [(0, .ref a0), (2, .int x2), (3, .int x3)] → W p l e rmX3_clearFrom s m args below meth c H locs 0 0 (MQ below (va_Qv Q (q_B D g A) A) args s rmX3_clearFrom.cells rmX3_clearFrom.slots A) (F0 m 6 ls []) := by
    intro n
    induction n with
    | zero => intro a0 x2 x3 S H locs ls h; exact absurd h (fun h => h)
    | succ n ih6 =>
      intro a0 x2 x3 S H locs ls h hp hl
      have h : wX3_clearFrom_b6 Q (lX3_clearFrom_b6 Q n) a0 x2 x3 S := h
      unfold wX3_clearFrom_b6 at h
      refine lv_iload_n hx hb dX3_clearFrom_6 rfl (q_at hl 2 rfl) ?_
      refine lv_iload_n hx hb dX3_clearFrom_7 rfl (q_at hl 1 rfl) ?_
      refine lv_icmp_ge (tgt := 30) hx hb dX3_clearFrom_8 (by decide) (fun c_1 => ?_) (fun c_1 => ?_)
      · have h := h.1 c_1
        exact q_vret C hp hr h dX3_clearFrom_30
      · have h := h.2 c_1
        refine lv_iload_n hx hb dX3_clearFrom_11 rfl (q_at hl 2 rfl) ?_
        refine lv_bipush (v := 40) hx hb dX3_clearFrom_12 (by decide) ?_
        refine lv_icmp_ge (tgt := 30) hx hb dX3_clearFrom_14 (by decide) (fun c_2 => ?_) (fun c_2 => ?_)
        · have h := h.1 c_2
          exact q_vret C hp hr h dX3_clearFrom_30
        · have h := h.2 c_2
          refine lv_aload_n hx hb dX3_clearFrom_17 rfl (q_at hl 0 rfl) ?_
          refine q_rGR C hp h rfl iX3_clearFrom_X3 (by decide) kX3_clearFrom_9 dX3_clearFrom_18 (fun r_3 h => ?_)
          refine lv_iload_n hx hb dX3_clearFrom_21 rfl (q_at hl 2 rfl) ?_
          refine lv_iconst (v := 0) hx hb dX3_clearFrom_22 (by decide) ?_
          refine q_rSI C hp h dX3_clearFrom_23 (fun S_4 H locs h hp => ?_)
          refine q_inc (x := x3) (v := (x3 + (1 : Int32))) (lv' := [(3, .int (x3 + (1 : Int32))), (0, .ref a0), (2, .int x2)]) hx hb dX3_clearFrom_24 hl (k := 2) rfl rfl (by decide) rfl (fun ls hl => ?_)
          refine lv_goto (tgt := 6) hx hb dX3_clearFrom_27 (by decide) ?_
          exact ih6 a0 x2 (x3 + (1 : Int32)) _ _ _ _ h hp (q_sub hl [1, 2, 0] rfl)
  unfold wX3_clearFrom at h
  have h := h.2
  refine lv_iconst (v := 0) hx hb dX3_clearFrom_0 (by decide) ?_
  refine lv_iload_n hx hb dX3_clearFrom_1 rfl (q_at hl 1 rfl) ?_
  refine q_max C hl.1.1 kmax1X3_clearFrom kmax2X3_clearFrom kmax3X3_clearFrom kmax4X3_clearFrom (Nat.le_of_ble_eq_true rfl) (Nat.le_of_ble_eq_true rfl) (Nat.zero_le _) (Nat.zero_le _) dX3_clearFrom_2 ?_
  refine q_istn (lv' := [(3, .int (if (0 : Int32) < x1 then x1 else (0 : Int32))), (0, .ref a0), (1, .int x1), (2, .int x2)]) hx hb dX3_clearFrom_5 rfl hl (by decide) rfl (fun ls hl => ?_)
  exact j6 q_fuel a0 x2 (if (0 : Int32) < x1 then x1 else (0 : Int32)) _ _ _ _ h hp (q_sub hl [1, 3, 0] rfl)
theorem kX3_size_9 : Cond.fieldLink RX3 9 (TX3 0).1 (TX3 0).2.1 (TX3 0).2.2.1 ∈ wsX3_size := by decide +kernel
theorem iX3_size_X3 : ∀ w ∈ u_ws RX3 TX3 2, w ∈ wsX3_size := by decide +kernel
set_option maxHeartbeats 4000000 in
set_option maxRecDepth 100000 in
theorem RX3_size (l : Launch) (D : va_G) (g : q_A) (S : q_S) (a0 : Nat) (x1 : Int32) (Q : Int32 → q_S → Prop) (h : wX3_size a0 x1 Q S) : q_Mi l yX3_size wsX3_size rmX3_size D g [.ref a0, .int x1] S Q := by
  refine q_Mi.of (cc := cX3_size) (nL := 2) (rt := .int) (by decide +kernel) rfl (Nat.le_of_ble_eq_true rfl) rfl ?_
  intro p e s m args below meth c ls A C hr hnm hp hl
  have C : q_X p s m args meth c cX3_size 2 RX3 wsX3_size D g A := C
  have hx := C.1
  have hb := C.2.1
  have hl : q_l ls 2 [(0, .ref a0), (1, .int x1)] := hl
  unfold wX3_size at h
  have h := h.2
  refine lv_iload_n hx hb dX3_size_0 rfl (q_at hl 1 rfl) ?_
  refine lv_if_lt (tgt := 19) hx hb dX3_size_1 (by decide) (fun c_1 => ?_) (fun c_1 => ?_)
  · have h := h.1 c_1
    refine lv_iconst (v := 0) hx hb dX3_size_19 (by decide) ?_
    exact q_iret C hp hr h dX3_size_20
  · have h := h.2 c_1
    refine lv_iload_n hx hb dX3_size_4 rfl (q_at hl 1 rfl) ?_
    refine lv_bipush (v := 40) hx hb dX3_size_5 (by decide) ?_
    refine lv_icmp_ge (tgt := 19) hx hb dX3_size_7 (by decide) (fun c_2 => ?_) (fun c_2 => ?_)
    · have h := h.1 c_2
      refine lv_iconst (v := 0) hx hb dX3_size_19 (by decide) ?_
      exact q_iret C hp hr h dX3_size_20
    · have h := h.2 c_2
      refine lv_aload_n hx hb dX3_size_10 rfl (q_at hl 0 rfl) ?_
      refine q_rGR C hp h rfl iX3_size_X3 (by decide) kX3_size_9 dX3_size_11 (fun r_3 h => ?_)
      refine lv_iload_n hx hb dX3_size_14 rfl (q_at hl 1 rfl) ?_
      refine q_rLI C hp h dX3_size_15 (fun v_4 h => ?_)
      refine lv_goto (tgt := 20) hx hb dX3_size_16 (by decide) ?_
      exact q_iret C hp hr h dX3_size_20
theorem kX3_figure_9 : Cond.fieldLink RX3 9 (TX3 0).1 (TX3 0).2.1 (TX3 0).2.2.1 ∈ wsX3_figure := by decide +kernel
theorem kX3_figure_15 : Cond.fieldLink RX3 15 (TX3 1).1 (TX3 1).2.1 (TX3 1).2.2.1 ∈ wsX3_figure := by decide +kernel
theorem iX3_figure_X3 : ∀ w ∈ u_ws RX3 TX3 2, w ∈ wsX3_figure := by decide +kernel
set_option maxHeartbeats 4000000 in
set_option maxRecDepth 100000 in
theorem RX3_figure (l : Launch) (D : va_G) (g : q_A) (S : q_S) (a0 : Nat) (x1 : Int32) (x2 : Int32) (x3 : Int32) (Q : Int32 → q_S → Prop) (h : wX3_figure a0 x1 x2 x3 Q S) : q_Mi l yX3_figure wsX3_figure rmX3_figure D g [.ref a0, .int x1, .int x2, .int x3] S Q := by
  refine q_Mi.of (cc := cX3_figure) (nL := 4) (rt := .int) (by decide +kernel) rfl (Nat.le_of_ble_eq_true rfl) rfl ?_
  intro p e s m args below meth c ls A C hr hnm hp hl
  have C : q_X p s m args meth c cX3_figure 4 RX3 wsX3_figure D g A := C
  have hx := C.1
  have hb := C.2.1
  have hl : q_l ls 4 [(0, .ref a0), (1, .int x1), (2, .int x2), (3, .int x3)] := hl
  unfold wX3_figure at h
  have h := h.2
  refine lv_iload_n hx hb dX3_figure_0 rfl (q_at hl 1 rfl) ?_
  refine lv_if_lt (tgt := 33) hx hb dX3_figure_1 (by decide) (fun c_1 => ?_) (fun c_1 => ?_)
  · have h := h.1 c_1
    refine lv_bipush (v := (-100)) hx hb dX3_figure_33 (by decide) ?_
    exact q_iret C hp hr h dX3_figure_35
  · have h := h.2 c_1
    refine lv_iload_n hx hb dX3_figure_4 rfl (q_at hl 1 rfl) ?_
    refine lv_bipush (v := 40) hx hb dX3_figure_5 (by decide) ?_
    refine lv_icmp_ge (tgt := 33) hx hb dX3_figure_7 (by decide) (fun c_2 => ?_) (fun c_2 => ?_)
    · have h := h.1 c_2
      refine lv_bipush (v := (-100)) hx hb dX3_figure_33 (by decide) ?_
      exact q_iret C hp hr h dX3_figure_35
    · have h := h.2 c_2
      refine lv_iload_n hx hb dX3_figure_10 rfl (q_at hl 2 rfl) ?_
      refine lv_if_lt (tgt := 33) hx hb dX3_figure_11 (by decide) (fun c_3 => ?_) (fun c_3 => ?_)
      · have h := h.1 c_3
        refine lv_bipush (v := (-100)) hx hb dX3_figure_33 (by decide) ?_
        exact q_iret C hp hr h dX3_figure_35
      · have h := h.2 c_3
        refine lv_iload_n hx hb dX3_figure_14 rfl (q_at hl 2 rfl) ?_
        refine lv_aload_n hx hb dX3_figure_15 rfl (q_at hl 0 rfl) ?_
        refine q_rGR C hp h rfl iX3_figure_X3 (by decide) kX3_figure_9 dX3_figure_16 (fun r_4 h => ?_)
        refine lv_iload_n hx hb dX3_figure_19 rfl (q_at hl 1 rfl) ?_
        refine q_rLI C hp h dX3_figure_20 (fun v_5 h => ?_)
        refine lv_icmp_ge (tgt := 33) hx hb dX3_figure_21 (by decide) (fun c_6 => ?_) (fun c_6 => ?_)
        · have h := h.1 c_6
          refine lv_bipush (v := (-100)) hx hb dX3_figure_33 (by decide) ?_
          exact q_iret C hp hr h dX3_figure_35
        · have h := h.2 c_6
          refine lv_iload_n hx hb dX3_figure_24 rfl (q_at hl 3 rfl) ?_
          refine lv_if_lt (tgt := 33) hx hb dX3_figure_25 (by decide) (fun c_7 => ?_) (fun c_7 => ?_)
          · have h := h.1 c_7
            refine lv_bipush (v := (-100)) hx hb dX3_figure_33 (by decide) ?_
            exact q_iret C hp hr h dX3_figure_35
          · have h := h.2 c_7
            refine lv_iload_n hx hb dX3_figure_28 rfl (q_at hl 3 rfl) ?_
            refine lv_iconst (v := 4) hx hb dX3_figure_29 (by decide) ?_
            refine lv_icmp_lt (tgt := 36) hx hb dX3_figure_30 (by decide) (fun c_8 => ?_) (fun c_8 => ?_)
            · have h := h.1 c_8
              refine lv_aload_n hx hb dX3_figure_36 rfl (q_at hl 0 rfl) ?_
              refine q_rGR C hp h rfl iX3_figure_X3 (by decide) kX3_figure_15 dX3_figure_37 (fun r_9 h => ?_)
              refine lv_iload_n hx hb dX3_figure_40 rfl (q_at hl 1 rfl) ?_
              refine lv_bipush (v := 8) hx hb dX3_figure_41 (by decide) ?_
              refine lv_imul hx hb dX3_figure_43 ?_
              refine lv_iload_n hx hb dX3_figure_44 rfl (q_at hl 2 rfl) ?_
              refine lv_iadd hx hb dX3_figure_45 ?_
              refine lv_iconst (v := 4) hx hb dX3_figure_46 (by decide) ?_
              refine lv_imul hx hb dX3_figure_47 ?_
              refine lv_iload_n hx hb dX3_figure_48 rfl (q_at hl 3 rfl) ?_
              refine lv_iadd hx hb dX3_figure_49 ?_
              refine q_rLI C hp h dX3_figure_50 (fun v_10 h => ?_)
              exact q_iret C hp hr h dX3_figure_51
            · have h := h.2 c_8
              refine lv_bipush (v := (-100)) hx hb dX3_figure_33 (by decide) ?_
              exact q_iret C hp hr h dX3_figure_35

set_option maxHeartbeats 4000000 in
set_option maxRecDepth 100000 in
theorem RX3_hasAt (l : Launch) (D : va_G) (g : q_A) (S : q_S) (a0 : Nat) (x1 : Int32) (x2 : Int32) (x3 : Int32) (Q : Int32 → q_S → Prop) (h : wX3_hasAt a0 x1 x2 x3 Q S) : q_Mi l yX3_hasAt wsX3_hasAt rmX3_hasAt D g [.ref a0, .int x1, .int x2, .int x3] S Q := by
  refine q_Mi.of (cc := cX3_hasAt) (nL := 5) (rt := .boolean) (by decide +kernel) rfl (Nat.le_of_ble_eq_true rfl) rfl ?_
  intro p e s m args below meth c ls A C hr hnm hp hl
  have C : q_X p s m args meth c cX3_hasAt 5 RX3 wsX3_hasAt D g A := C
  have hx := C.1
  have hb := C.2.1
  have hl : q_l ls 5 [(0, .ref a0), (1, .int x1), (2, .int x2), (3, .int x3)] := hl
  have j39 : ∀ (k3 : Nat → Int32 → Int32 → Int32 → Int32 → q_S → Prop) (ih3 : ∀ (a0 : Nat) (x1 : Int32) (x2 : Int32) (x3 : Int32) (x4 : Int32) (S : q_S) (H : Heap) (locs : List Loc) (ls : Array Slot), k3 a0 x1 x2 x3 x4 S → q_P D g A s.heap S H locs → q_l ls 5 [(0, .ref a0), (1, .int x1), (2, .int x2), (3, .int x3), (4, .int x4)] → W p l e rmX3_hasAt s m args below meth c H locs 0 0 (MQ below (va_Qi Q (q_B D g A) A) args s rmX3_hasAt.cells rmX3_hasAt.slots A) (F0 m 3 ls [])) (a0 : Nat) (x1 : Int32) (x2 : Int32) (x3 : Int32) (x4 : Int32) (S : q_S) (H : Heap) (locs : List Loc) (ls : Array Slot), wX3_hasAt_b39 Q k3 a0 x1 x2 x3 x4 S → q_P D g A s.heap S H locs → q_l ls 5 [(0, .ref a0), (1, .int x1), (2, .int x2), (3, .int x3), (4, .int x4)] → W p l e rmX3_hasAt s m args below meth c H locs 0 0 (MQ below (va_Qi Q (q_B D g A) A) args s rmX3_hasAt.cells rmX3_hasAt.slots A) (F0 m 39 ls []) := by
    intro k3 ih3 a0 x1 x2 x3 x4 S H locs ls h hp hl
    unfold wX3_hasAt_b39 at h
    refine q_inc (x := x4) (v := (x4 + (1 : Int32))) (lv' := [(4, .int (x4 + (1 : Int32))), (0, .ref a0), (1, .int x1), (2, .int x2), (3, .int x3)]) hx hb dX3_hasAt_39 hl (k := 4) rfl rfl (by decide) rfl (fun ls hl => ?_)
    refine lv_goto (tgt := 3) hx hb dX3_hasAt_42 (by decide) ?_
    exact ih3 a0 x1 x2 x3 (x4 + (1 : Int32)) _ _ _ _ h hp (q_sub hl [1, 2, 3, 4, 0] rfl)
  have j3 : ∀ (n : Nat), ∀ (a0 : Nat) (x1 : Int32) (x2 : Int32) (x3 : Int32) (x4 : Int32) (S : q_S) (H : Heap) (locs : List Loc) (ls : Array Slot), lX3_hasAt_b3 Q n a0 x1 x2 x3 x4 S → q_P D g A s.heap S H locs → q_l ls 5 [(0, .ref a0), (1, .int x1), (2, .int x2), (3, .int x3), (4, .int x4)] → W p l e rmX3_hasAt s m args below meth c H locs 0 0 (MQ below (va_Qi Q (q_B D g A) A) args s rmX3_hasAt.cells rmX3_hasAt.slots A) (F0 m 3 ls []) := by
    intro n
    induction n with
    | zero => intro a0 x1 x2 x3 x4 S H locs ls h; exact absurd h (fun h => h)
    | succ n ih3 =>
      intro a0 x1 x2 x3 x4 S H locs ls h hp hl
      have h : wX3_hasAt_b3 Q (lX3_hasAt_b3 Q n) a0 x1 x2 x3 x4 S := h
      unfold wX3_hasAt_b3 at h
      refine lv_iload hx hb dX3_hasAt_3 (q_at hl 4 rfl) ?_
      refine lv_aload_n hx hb dX3_hasAt_5 rfl (q_at hl 0 rfl) ?_
      refine lv_iload_n hx hb dX3_hasAt_6 rfl (q_at hl 1 rfl) ?_
      refine q_finI0 C hp (q_runV (As := [.int x1]) (rest := [.int x4]) C hp (RX3_size l D g _ a0 x1 _ h _) (cwV 1 C.2.2.2.2.1 gX3_hasAt_X3_size rfl rfl rfl (by decide +kernel) ⟨(Nat.le_of_ble_eq_true rfl), (Nat.le_of_ble_eq_true rfl)⟩) h.1 rfl rfl hl.1.1 rfl (Nat.le_of_ble_eq_true rfl) dX3_hasAt_7 ⟨(Nat.le_of_ble_eq_true rfl), (Nat.le_of_ble_eq_true rfl)⟩) rfl rfl (fun v_2 S_1 H locs h hp => ?_)
      refine lv_icmp_ge (tgt := 45) hx hb dX3_hasAt_10 (by decide) (fun c_3 => ?_) (fun c_3 => ?_)
      · have h := h.1 c_3
        refine lv_iconst (v := 0) hx hb dX3_hasAt_45 (by decide) ?_
        exact q_zret C hp hr h dX3_hasAt_46
      · have h := h.2 c_3
        refine lv_aload_n hx hb dX3_hasAt_13 rfl (q_at hl 0 rfl) ?_
        refine lv_iload_n hx hb dX3_hasAt_14 rfl (q_at hl 1 rfl) ?_
        refine lv_iload hx hb dX3_hasAt_15 (q_at hl 4 rfl) ?_
        refine lv_iconst (v := 0) hx hb dX3_hasAt_17 (by decide) ?_
        refine q_finI0 C hp (q_runV (As := [.int x1, .int x4, .int (0 : Int32)]) (rest := []) C hp (RX3_figure l D g _ a0 x1 x4 (0 : Int32) _ h _) (cwV 3 C.2.2.2.2.1 gX3_hasAt_X3_figure rfl rfl rfl (by decide +kernel) ⟨(Nat.le_of_ble_eq_true rfl), (Nat.le_of_ble_eq_true rfl)⟩) h.1 rfl rfl hl.1.1 rfl (Nat.le_of_ble_eq_true rfl) dX3_hasAt_18 ⟨(Nat.le_of_ble_eq_true rfl), (Nat.le_of_ble_eq_true rfl)⟩) rfl rfl (fun v_5 S_4 H locs h hp => ?_)
        refine lv_iload_n hx hb dX3_hasAt_21 rfl (q_at hl 2 rfl) ?_
        refine lv_icmp_ne (tgt := 39) hx hb dX3_hasAt_22 (by decide) (fun c_6 => ?_) (fun c_6 => ?_)
        · have h := h.1 c_6
          exact j39 (lX3_hasAt_b3 Q n) ih3 a0 x1 x2 x3 x4 _ _ _ _ h hp (q_sub hl [0, 1, 2, 3, 4] rfl)
        · have h := h.2 c_6
          refine lv_aload_n hx hb dX3_hasAt_25 rfl (q_at hl 0 rfl) ?_
          refine lv_iload_n hx hb dX3_hasAt_26 rfl (q_at hl 1 rfl) ?_
          refine lv_iload hx hb dX3_hasAt_27 (q_at hl 4 rfl) ?_
          refine lv_iconst (v := 2) hx hb dX3_hasAt_29 (by decide) ?_
          refine q_finI0 C hp (q_runV (As := [.int x1, .int x4, .int (2 : Int32)]) (rest := []) C hp (RX3_figure l D g _ a0 x1 x4 (2 : Int32) _ h _) (cwV 3 C.2.2.2.2.1 gX3_hasAt_X3_figure rfl rfl rfl (by decide +kernel) ⟨(Nat.le_of_ble_eq_true rfl), (Nat.le_of_ble_eq_true rfl)⟩) h.1 rfl rfl hl.1.1 rfl (Nat.le_of_ble_eq_true rfl) dX3_hasAt_30 ⟨(Nat.le_of_ble_eq_true rfl), (Nat.le_of_ble_eq_true rfl)⟩) rfl rfl (fun v_8 S_7 H locs h hp => ?_)
          refine lv_iload_n hx hb dX3_hasAt_33 rfl (q_at hl 3 rfl) ?_
          refine lv_icmp_ne (tgt := 39) hx hb dX3_hasAt_34 (by decide) (fun c_9 => ?_) (fun c_9 => ?_)
          · have h := h.1 c_9
            exact j39 (lX3_hasAt_b3 Q n) ih3 a0 x1 x2 x3 x4 _ _ _ _ h hp (q_sub hl [0, 1, 2, 3, 4] rfl)
          · have h := h.2 c_9
            refine lv_iconst (v := 1) hx hb dX3_hasAt_37 (by decide) ?_
            exact q_zret C hp hr h dX3_hasAt_38
  unfold wX3_hasAt at h
  have h := h.2
  refine lv_iconst (v := 0) hx hb dX3_hasAt_0 (by decide) ?_
  refine q_ist (lv' := [(4, .int (0 : Int32)), (0, .ref a0), (1, .int x1), (2, .int x2), (3, .int x3)]) hx hb dX3_hasAt_1 hl (by decide) rfl (fun ls hl => ?_)
  exact j3 q_fuel a0 x1 x2 x3 (0 : Int32) _ _ _ _ h hp (q_sub hl [1, 2, 3, 4, 0] rfl)

set_option maxHeartbeats 4000000 in
set_option maxRecDepth 100000 in
theorem RX3_isBehind (l : Launch) (D : va_G) (g : q_A) (S : q_S) (a0 : Nat) (x1 : Int32) (x2 : Int32) (x3 : Int32) (x4 : Int32) (Q : Int32 → q_S → Prop) (h : wX3_isBehind a0 x1 x2 x3 x4 Q S) : q_Mi l yX3_isBehind wsX3_isBehind rmX3_isBehind D g [.ref a0, .int x1, .int x2, .int x3, .int x4] S Q := by
  refine q_Mi.of (cc := cX3_isBehind) (nL := 6) (rt := .boolean) (by decide +kernel) rfl (Nat.le_of_ble_eq_true rfl) rfl ?_
  intro p e s m args below meth c ls A C hr hnm hp hl
  have C : q_X p s m args meth c cX3_isBehind 6 RX3 wsX3_isBehind D g A := C
  have hx := C.1
  have hb := C.2.1
  have hl : q_l ls 6 [(0, .ref a0), (1, .int x1), (2, .int x2), (3, .int x3), (4, .int x4)] := hl
  have j33 : ∀ (S : q_S) (H : Heap) (locs : List Loc) (ls : Array Slot), wX3_isBehind_b33 Q S → q_P D g A s.heap S H locs → q_l ls 6 [] → W p l e rmX3_isBehind s m args below meth c H locs 0 0 (MQ below (va_Qi Q (q_B D g A) A) args s rmX3_isBehind.cells rmX3_isBehind.slots A) (F0 m 33 ls []) := by
    intro S H locs ls h hp hl
    unfold wX3_isBehind_b33 at h
    refine lv_iconst (v := 1) hx hb dX3_isBehind_33 (by decide) ?_
    refine lv_goto (tgt := 38) hx hb dX3_isBehind_34 (by decide) ?_
    exact q_zret C hp hr h dX3_isBehind_38
  unfold wX3_isBehind at h
  have h := h.2
  refine lv_aload_n hx hb dX3_isBehind_0 rfl (q_at hl 0 rfl) ?_
  refine lv_iload_n hx hb dX3_isBehind_1 rfl (q_at hl 1 rfl) ?_
  refine lv_iload_n hx hb dX3_isBehind_2 rfl (q_at hl 2 rfl) ?_
  refine lv_iconst (v := 0) hx hb dX3_isBehind_3 (by decide) ?_
  refine q_finI0 C hp (q_runV (As := [.int x1, .int x2, .int (0 : Int32)]) (rest := []) C hp (RX3_figure l D g _ a0 x1 x2 (0 : Int32) _ h _) (cwV 3 C.2.2.2.2.1 gX3_isBehind_X3_figure rfl rfl rfl (by decide +kernel) ⟨(Nat.le_of_ble_eq_true rfl), (Nat.le_of_ble_eq_true rfl)⟩) h.1 rfl rfl hl.1.1 rfl (Nat.le_of_ble_eq_true rfl) dX3_isBehind_4 ⟨(Nat.le_of_ble_eq_true rfl), (Nat.le_of_ble_eq_true rfl)⟩) rfl rfl (fun v_2 S_1 H locs h hp => ?_)
  refine q_ist (lv' := [(5, .int v_2), (0, .ref a0), (1, .int x1), (2, .int x2), (3, .int x3), (4, .int x4)]) hx hb dX3_isBehind_7 hl (by decide) rfl (fun ls hl => ?_)
  refine lv_iload hx hb dX3_isBehind_9 (q_at hl 0 rfl) ?_
  refine lv_iload_n hx hb dX3_isBehind_11 rfl (q_at hl 4 rfl) ?_
  refine lv_icmp_gt (tgt := 33) hx hb dX3_isBehind_12 (by decide) (fun c_3 => ?_) (fun c_3 => ?_)
  · have h := h.1 c_3
    exact j33 _ _ _ _ h hp (q_sub hl [] rfl)
  · have h := h.2 c_3
    refine lv_iload hx hb dX3_isBehind_15 (q_at hl 0 rfl) ?_
    refine lv_iload_n hx hb dX3_isBehind_17 rfl (q_at hl 4 rfl) ?_
    refine lv_icmp_ne (tgt := 37) hx hb dX3_isBehind_18 (by decide) (fun c_4 => ?_) (fun c_4 => ?_)
    · have h := h.1 c_4
      refine lv_iconst (v := 0) hx hb dX3_isBehind_37 (by decide) ?_
      exact q_zret C hp hr h dX3_isBehind_38
    · have h := h.2 c_4
      refine lv_aload_n hx hb dX3_isBehind_21 rfl (q_at hl 1 rfl) ?_
      refine lv_iload_n hx hb dX3_isBehind_22 rfl (q_at hl 2 rfl) ?_
      refine lv_iload_n hx hb dX3_isBehind_23 rfl (q_at hl 3 rfl) ?_
      refine lv_iconst (v := 2) hx hb dX3_isBehind_24 (by decide) ?_
      refine q_finI0 C hp (q_runV (As := [.int x1, .int x2, .int (2 : Int32)]) (rest := []) C hp (RX3_figure l D g _ a0 x1 x2 (2 : Int32) _ h _) (cwV 3 C.2.2.2.2.1 gX3_isBehind_X3_figure rfl rfl rfl (by decide +kernel) ⟨(Nat.le_of_ble_eq_true rfl), (Nat.le_of_ble_eq_true rfl)⟩) h.1 rfl rfl hl.1.1 rfl (Nat.le_of_ble_eq_true rfl) dX3_isBehind_25 ⟨(Nat.le_of_ble_eq_true rfl), (Nat.le_of_ble_eq_true rfl)⟩) rfl rfl (fun v_6 S_5 H locs h hp => ?_)
      refine lv_iload hx hb dX3_isBehind_28 (q_at hl 5 rfl) ?_
      refine lv_icmp_le (tgt := 37) hx hb dX3_isBehind_30 (by decide) (fun c_7 => ?_) (fun c_7 => ?_)
      · have h := h.1 c_7
        refine lv_iconst (v := 0) hx hb dX3_isBehind_37 (by decide) ?_
        exact q_zret C hp hr h dX3_isBehind_38
      · have h := h.2 c_7
        exact j33 _ _ _ _ h hp (q_sub hl [] rfl)

set_option maxHeartbeats 4000000 in
set_option maxRecDepth 100000 in
theorem RX3_placeOf (l : Launch) (D : va_G) (g : q_A) (S : q_S) (x0 : Int32) (x1 : Int32) (Q : Int32 → q_S → Prop) (h : wX3_placeOf x0 x1 Q S) : q_Mi l yX3_placeOf wsX3_placeOf rmX3_placeOf D g [.int x0, .int x1] S Q := by
  refine q_Mi.of (cc := cX3_placeOf) (nL := 2) (rt := .int) (by decide +kernel) rfl (Nat.le_of_ble_eq_true rfl) rfl ?_
  intro p e s m args below meth c ls A C hr hnm hp hl
  have C : q_X p s m args meth c cX3_placeOf 2 RX3 wsX3_placeOf D g A := C
  have hx := C.1
  have hb := C.2.1
  have hl : q_l ls 2 [(0, .int x0), (1, .int x1)] := hl
  unfold wX3_placeOf at h
  refine lv_iload_n hx hb dX3_placeOf_0 rfl (q_at hl 0 rfl) ?_
  refine lv_bipush (v := 8) hx hb dX3_placeOf_1 (by decide) ?_
  refine lv_imul hx hb dX3_placeOf_3 ?_
  refine lv_iload_n hx hb dX3_placeOf_4 rfl (q_at hl 1 rfl) ?_
  refine lv_iadd hx hb dX3_placeOf_5 ?_
  refine lv_iconst (v := 4) hx hb dX3_placeOf_6 (by decide) ?_
  refine lv_imul hx hb dX3_placeOf_7 ?_
  exact q_iret C hp hr h dX3_placeOf_8
theorem kX3_insert_9 : Cond.fieldLink RX3 9 (TX3 0).1 (TX3 0).2.1 (TX3 0).2.2.1 ∈ wsX3_insert := by decide +kernel
theorem kX3_insert_15 : Cond.fieldLink RX3 15 (TX3 1).1 (TX3 1).2.1 (TX3 1).2.2.1 ∈ wsX3_insert := by decide +kernel
theorem iX3_insert_X3 : ∀ w ∈ u_ws RX3 TX3 2, w ∈ wsX3_insert := by decide +kernel
theorem kcp4X3_insert : Cond.initialized "java/lang/System" ∈ wsX3_insert := by decide +kernel
theorem kcp1X3_insert : Cond.methodLink RX3 34 arraycopyName ∈ wsX3_insert := by decide +kernel
theorem kcp2X3_insert : Cond.native arraycopyName ∈ wsX3_insert := by decide +kernel
theorem kcp3X3_insert : Cond.static arraycopyName ∈ wsX3_insert := by decide +kernel
set_option maxHeartbeats 4000000 in
set_option maxRecDepth 100000 in
theorem RX3_insert (l : Launch) (D : va_G) (g : q_A) (S : q_S) (a0 : Nat) (x1 : Int32) (x2 : Int32) (x3 : Int32) (x4 : Int32) (x5 : Int32) (Q : q_S → Prop) (h : wX3_insert a0 x1 x2 x3 x4 x5 Q S) : q_Mv l yX3_insert wsX3_insert rmX3_insert D g [.ref a0, .int x1, .int x2, .int x3, .int x4, .int x5] S Q := by
  refine q_Mv.of (cc := cX3_insert) (nL := 9) (by decide +kernel) rfl (Nat.le_of_ble_eq_true rfl) rfl ?_
  intro p e s m args below meth c ls A C hr hnm hp hl
  have C : q_X p s m args meth c cX3_insert 9 RX3 wsX3_insert D g A := C
  have hx := C.1
  have hb := C.2.1
  have hl : q_l ls 9 [(0, .ref a0), (1, .int x1), (2, .int x2), (3, .int x3), (4, .int x4), (5, .int x5)] := hl
  have j81 : ∀ (a0 : Nat) (x1 : Int32) (x2 : Int32) (x3 : Int32) (x4 : Int32) (x5 : Int32) (x6 : Int32) (x7 : Int32) (S : q_S) (H : Heap) (locs : List Loc) (ls : Array Slot), wX3_insert_b81 Q a0 x1 x2 x3 x4 x5 x6 x7 S → q_P D g A s.heap S H locs → q_l ls 9 [(0, .ref a0), (1, .int x1), (2, .int x2), (3, .int x3), (4, .int x4), (5, .int x5), (6, .int x6), (7, .int x7)] → W p l e rmX3_insert s m args below meth c H locs 0 0 (MQ below (va_Qv Q (q_B D g A) A) args s rmX3_insert.cells rmX3_insert.slots A) (F0 m 81 ls []) := by
    intro a0 x1 x2 x3 x4 x5 x6 x7 S H locs ls h hp hl
    unfold wX3_insert_b81 at h
    refine lv_iload_n hx hb dX3_insert_81 rfl (q_at hl 1 rfl) ?_
    refine lv_iload hx hb dX3_insert_82 (q_at hl 7 rfl) ?_
    refine q_finI0 C hp (q_runS (As := [.int x1, .int x7]) (rest := []) C hp (RX3_placeOf l D g _ x1 x7 _ h _) (va_cwS 2 C.2.2.2.2.1 gX3_insert_X3_placeOf rfl rfl rfl (by decide +kernel) ⟨(Nat.le_of_ble_eq_true rfl), (Nat.le_of_ble_eq_true rfl)⟩) rfl hl.1.1 rfl (Nat.le_of_ble_eq_true rfl) dX3_insert_84 ⟨(Nat.le_of_ble_eq_true rfl), (Nat.le_of_ble_eq_true rfl)⟩) rfl rfl (fun v_2 S_1 H locs h hp => ?_)
    refine q_ist (lv' := [(8, .int v_2), (0, .ref a0), (1, .int x1), (2, .int x2), (3, .int x3), (4, .int x4), (5, .int x5), (6, .int x6), (7, .int x7)]) hx hb dX3_insert_87 hl (by decide) rfl (fun ls hl => ?_)
    refine lv_aload_n hx hb dX3_insert_89 rfl (q_at hl 1 rfl) ?_
    refine q_rGR C hp h rfl iX3_insert_X3 (by decide) kX3_insert_15 dX3_insert_90 (fun r_3 h => ?_)
    refine lv_iload hx hb dX3_insert_93 (q_at hl 0 rfl) ?_
    refine lv_iconst (v := 0) hx hb dX3_insert_95 (by decide) ?_
    refine lv_iadd hx hb dX3_insert_96 ?_
    refine lv_iload_n hx hb dX3_insert_97 rfl (q_at hl 3 rfl) ?_
    refine q_rSI C hp h dX3_insert_98 (fun S_4 H locs h hp => ?_)
    refine lv_aload_n hx hb dX3_insert_99 rfl (q_at hl 1 rfl) ?_
    refine q_rGR C hp h rfl iX3_insert_X3 (by decide) kX3_insert_15 dX3_insert_100 (fun r_5 h => ?_)
    refine lv_iload hx hb dX3_insert_103 (q_at hl 0 rfl) ?_
    refine lv_iconst (v := 1) hx hb dX3_insert_105 (by decide) ?_
    refine lv_iadd hx hb dX3_insert_106 ?_
    refine lv_iload_n hx hb dX3_insert_107 rfl (q_at hl 4 rfl) ?_
    refine q_rSI C hp h dX3_insert_108 (fun S_6 H locs h hp => ?_)
    refine lv_aload_n hx hb dX3_insert_109 rfl (q_at hl 1 rfl) ?_
    refine q_rGR C hp h rfl iX3_insert_X3 (by decide) kX3_insert_15 dX3_insert_110 (fun r_7 h => ?_)
    refine lv_iload hx hb dX3_insert_113 (q_at hl 0 rfl) ?_
    refine lv_iconst (v := 2) hx hb dX3_insert_115 (by decide) ?_
    refine lv_iadd hx hb dX3_insert_116 ?_
    refine lv_iload hx hb dX3_insert_117 (q_at hl 5 rfl) ?_
    refine q_rSI C hp h dX3_insert_119 (fun S_8 H locs h hp => ?_)
    refine lv_aload_n hx hb dX3_insert_120 rfl (q_at hl 1 rfl) ?_
    refine q_rGR C hp h rfl iX3_insert_X3 (by decide) kX3_insert_15 dX3_insert_121 (fun r_9 h => ?_)
    refine lv_iload hx hb dX3_insert_124 (q_at hl 0 rfl) ?_
    refine lv_iconst (v := 3) hx hb dX3_insert_126 (by decide) ?_
    refine lv_iadd hx hb dX3_insert_127 ?_
    refine lv_iload hx hb dX3_insert_128 (q_at hl 6 rfl) ?_
    refine q_rSI C hp h dX3_insert_130 (fun S_10 H locs h hp => ?_)
    refine lv_aload_n hx hb dX3_insert_131 rfl (q_at hl 1 rfl) ?_
    refine q_rGR C hp h rfl iX3_insert_X3 (by decide) kX3_insert_9 dX3_insert_132 (fun r_11 h => ?_)
    refine lv_iload_n hx hb dX3_insert_135 rfl (q_at hl 2 rfl) ?_
    refine lv_iload hx hb dX3_insert_136 (q_at hl 7 rfl) ?_
    refine lv_iconst (v := 1) hx hb dX3_insert_138 (by decide) ?_
    refine lv_iadd hx hb dX3_insert_139 ?_
    refine q_rSI C hp h dX3_insert_140 (fun S_12 H locs h hp => ?_)
    exact q_vret C hp hr h dX3_insert_141
  have j29 : ∀ (n : Nat), ∀ (a0 : Nat) (x1 : Int32) (x2 : Int32) (x3 : Int32) (x4 : Int32) (x5 : Int32) (x6 : Int32) (x7 : Int32) (S : q_S) (H : Heap) (locs : List Loc) (ls : Array Slot), lX3_insert_b29 Q n a0 x1 x2 x3 x4 x5 x6 x7 S → q_P D g A s.heap S H locs → q_l ls 9 [(0, .ref a0), (1, .int x1), (2, .int x2), (3, .int x3), (4, .int x4), (5, .int x5), (6, .int x6), (7, .int x7)] → W p l e rmX3_insert s m args below meth c H locs 0 0 (MQ below (va_Qv Q (q_B D g A) A) args s rmX3_insert.cells rmX3_insert.slots A) (F0 m 29 ls []) := by
    intro n
    induction n with
    | zero => intro a0 x1 x2 x3 x4 x5 x6 x7 S H locs ls h; exact absurd h (fun h => h)
    | succ n ih29 =>
      intro a0 x1 x2 x3 x4 x5 x6 x7 S H locs ls h hp hl
      have h : wX3_insert_b29 Q (lX3_insert_b29 Q n) a0 x1 x2 x3 x4 x5 x6 x7 S := h
      unfold wX3_insert_b29 at h
      refine lv_iload hx hb dX3_insert_29 (q_at hl 7 rfl) ?_
      refine lv_if_le (tgt := 81) hx hb dX3_insert_31 (by decide) (fun c_13 => ?_) (fun c_13 => ?_)
      · have h := h.1 c_13
        exact j81 a0 x1 x2 x3 x4 x5 x6 x7 _ _ _ _ h hp (q_sub hl [0, 1, 2, 3, 4, 5, 6, 7] rfl)
      · have h := h.2 c_13
        refine lv_aload_n hx hb dX3_insert_34 rfl (q_at hl 0 rfl) ?_
        refine lv_iload_n hx hb dX3_insert_35 rfl (q_at hl 1 rfl) ?_
        refine lv_iload hx hb dX3_insert_36 (q_at hl 7 rfl) ?_
        refine lv_iconst (v := 1) hx hb dX3_insert_38 (by decide) ?_
        refine lv_isub hx hb dX3_insert_39 ?_
        refine lv_iload_n hx hb dX3_insert_40 rfl (q_at hl 2 rfl) ?_
        refine lv_iload hx hb dX3_insert_41 (q_at hl 4 rfl) ?_
        refine q_finI0 C hp (q_runV (As := [.int x1, .int (x7 - (1 : Int32)), .int x2, .int x4]) (rest := []) C hp (RX3_isBehind l D g _ a0 x1 (x7 - (1 : Int32)) x2 x4 _ h _) (cwV 4 C.2.2.2.2.1 gX3_insert_X3_isBehind rfl rfl rfl (by decide +kernel) ⟨(Nat.le_of_ble_eq_true rfl), (Nat.le_of_ble_eq_true rfl)⟩) h.1 rfl rfl hl.1.1 rfl (Nat.le_of_ble_eq_true rfl) dX3_insert_43 ⟨(Nat.le_of_ble_eq_true rfl), (Nat.le_of_ble_eq_true rfl)⟩) rfl rfl (fun v_15 S_14 H locs h hp => ?_)
        refine lv_if_eq (tgt := 81) hx hb dX3_insert_46 (by decide) (fun c_16 => ?_) (fun c_16 => ?_)
        · have h := h.1 c_16
          exact j81 a0 x1 x2 x3 x4 x5 x6 x7 _ _ _ _ h hp (q_sub hl [0, 1, 2, 3, 4, 5, 6, 7] rfl)
        · have h := h.2 c_16
          refine lv_aload_n hx hb dX3_insert_49 rfl (q_at hl 0 rfl) ?_
          refine q_rGR C hp h rfl iX3_insert_X3 (by decide) kX3_insert_15 dX3_insert_50 (fun r_17 h => ?_)
          refine lv_iload_n hx hb dX3_insert_53 rfl (q_at hl 1 rfl) ?_
          refine lv_iload hx hb dX3_insert_54 (q_at hl 7 rfl) ?_
          refine lv_iconst (v := 1) hx hb dX3_insert_56 (by decide) ?_
          refine lv_isub hx hb dX3_insert_57 ?_
          refine q_finI0 C hp (q_runS (As := [.int x1, .int (x7 - (1 : Int32))]) (rest := [.ref r_17]) C hp (RX3_placeOf l D g _ x1 (x7 - (1 : Int32)) _ h _) (va_cwS 2 C.2.2.2.2.1 gX3_insert_X3_placeOf rfl rfl rfl (by decide +kernel) ⟨(Nat.le_of_ble_eq_true rfl), (Nat.le_of_ble_eq_true rfl)⟩) rfl hl.1.1 rfl (Nat.le_of_ble_eq_true rfl) dX3_insert_58 ⟨(Nat.le_of_ble_eq_true rfl), (Nat.le_of_ble_eq_true rfl)⟩) rfl rfl (fun v_19 S_18 H locs h hp => ?_)
          refine lv_aload_n hx hb dX3_insert_61 rfl (q_at hl 0 rfl) ?_
          refine q_rGR C hp h rfl iX3_insert_X3 (by decide) kX3_insert_15 dX3_insert_62 (fun r_20 h => ?_)
          refine lv_iload_n hx hb dX3_insert_65 rfl (q_at hl 1 rfl) ?_
          refine lv_iload hx hb dX3_insert_66 (q_at hl 7 rfl) ?_
          refine q_finI0 C hp (q_runS (As := [.int x1, .int x7]) (rest := [.ref r_20, .int v_19, .ref r_17]) C hp (RX3_placeOf l D g _ x1 x7 _ h _) (va_cwS 2 C.2.2.2.2.1 gX3_insert_X3_placeOf rfl rfl rfl (by decide +kernel) ⟨(Nat.le_of_ble_eq_true rfl), (Nat.le_of_ble_eq_true rfl)⟩) rfl hl.1.1 rfl (Nat.le_of_ble_eq_true rfl) dX3_insert_68 ⟨(Nat.le_of_ble_eq_true rfl), (Nat.le_of_ble_eq_true rfl)⟩) rfl rfl (fun v_22 S_21 H locs h hp => ?_)
          refine lv_iconst (v := 4) hx hb dX3_insert_71 (by decide) ?_
          refine q_rCP C hp hl.1.1 h kcp1X3_insert kcp2X3_insert kcp3X3_insert kcp4X3_insert (Nat.le_of_ble_eq_true rfl) (by decide) dX3_insert_72 (fun S_23 H locs h hp => ?_)
          refine q_inc (x := x7) (v := (x7 + (-1 : Int32))) (lv' := [(7, .int (x7 + (-1 : Int32))), (0, .ref a0), (1, .int x1), (2, .int x2), (3, .int x3), (4, .int x4), (5, .int x5), (6, .int x6)]) hx hb dX3_insert_75 hl (k := 7) rfl rfl (by decide) rfl (fun ls hl => ?_)
          refine lv_goto (tgt := 29) hx hb dX3_insert_78 (by decide) ?_
          exact ih29 a0 x1 x2 x3 x4 x5 x6 (x7 + (-1 : Int32)) _ _ _ _ h hp (q_sub hl [1, 2, 3, 4, 5, 6, 7, 0] rfl)
  unfold wX3_insert at h
  have h := h.2
  refine lv_aload_n hx hb dX3_insert_0 rfl (q_at hl 0 rfl) ?_
  refine lv_iload_n hx hb dX3_insert_1 rfl (q_at hl 1 rfl) ?_
  refine q_finI0 C hp (q_runV (As := [.int x1]) (rest := []) C hp (RX3_size l D g _ a0 x1 _ h _) (cwV 1 C.2.2.2.2.1 gX3_insert_X3_size rfl rfl rfl (by decide +kernel) ⟨(Nat.le_of_ble_eq_true rfl), (Nat.le_of_ble_eq_true rfl)⟩) h.1 rfl rfl hl.1.1 rfl (Nat.le_of_ble_eq_true rfl) dX3_insert_2 ⟨(Nat.le_of_ble_eq_true rfl), (Nat.le_of_ble_eq_true rfl)⟩) rfl rfl (fun v_25 S_24 H locs h hp => ?_)
  refine q_ist (lv' := [(6, .int v_25), (0, .ref a0), (1, .int x1), (2, .int x2), (3, .int x3), (4, .int x4), (5, .int x5)]) hx hb dX3_insert_5 hl (by decide) rfl (fun ls hl => ?_)
  refine lv_iload_n hx hb dX3_insert_7 rfl (q_at hl 2 rfl) ?_
  refine lv_if_lt (tgt := 24) hx hb dX3_insert_8 (by decide) (fun c_26 => ?_) (fun c_26 => ?_)
  · have h := h.1 c_26
    exact q_vret C hp hr h dX3_insert_24
  · have h := h.2 c_26
    refine lv_iload_n hx hb dX3_insert_11 rfl (q_at hl 2 rfl) ?_
    refine lv_bipush (v := 40) hx hb dX3_insert_12 (by decide) ?_
    refine lv_icmp_ge (tgt := 24) hx hb dX3_insert_14 (by decide) (fun c_27 => ?_) (fun c_27 => ?_)
    · have h := h.1 c_27
      exact q_vret C hp hr h dX3_insert_24
    · have h := h.2 c_27
      refine lv_iload hx hb dX3_insert_17 (q_at hl 0 rfl) ?_
      refine lv_bipush (v := 8) hx hb dX3_insert_19 (by decide) ?_
      refine lv_icmp_lt (tgt := 25) hx hb dX3_insert_21 (by decide) (fun c_28 => ?_) (fun c_28 => ?_)
      · have h := h.1 c_28
        refine lv_iload hx hb dX3_insert_25 (q_at hl 0 rfl) ?_
        refine q_ist (lv' := [(7, .int v_25), (6, .int v_25), (0, .ref a0), (1, .int x1), (2, .int x2), (3, .int x3), (4, .int x4), (5, .int x5)]) hx hb dX3_insert_27 hl (by decide) rfl (fun ls hl => ?_)
        exact j29 q_fuel a0 x1 x2 x3 x4 x5 v_25 v_25 _ _ _ _ h hp (q_sub hl [2, 3, 4, 5, 6, 7, 1, 0] rfl)
      · have h := h.2 c_28
        exact q_vret C hp hr h dX3_insert_24
theorem kX3_total_9 : Cond.fieldLink RX3 9 (TX3 0).1 (TX3 0).2.1 (TX3 0).2.2.1 ∈ wsX3_total := by decide +kernel
theorem iX3_total_X3 : ∀ w ∈ u_ws RX3 TX3 2, w ∈ wsX3_total := by decide +kernel
set_option maxHeartbeats 4000000 in
set_option maxRecDepth 100000 in
theorem RX3_total (l : Launch) (D : va_G) (g : q_A) (S : q_S) (a0 : Nat) (Q : Int32 → q_S → Prop) (h : wX3_total a0 Q S) : q_Mi l yX3_total wsX3_total rmX3_total D g [.ref a0] S Q := by
  refine q_Mi.of (cc := cX3_total) (nL := 3) (rt := .int) (by decide +kernel) rfl (Nat.le_of_ble_eq_true rfl) rfl ?_
  intro p e s m args below meth c ls A C hr hnm hp hl
  have C : q_X p s m args meth c cX3_total 3 RX3 wsX3_total D g A := C
  have hx := C.1
  have hb := C.2.1
  have hl : q_l ls 3 [(0, .ref a0)] := hl
  have j4 : ∀ (n : Nat), ∀ (a0 : Nat) (x1 : Int32) (x2 : Int32) (S : q_S) (H : Heap) (locs : List Loc) (ls : Array Slot), lX3_total_b4 Q n a0 x1 x2 S → q_P D g A s.heap S H locs → q_l ls 3 [(0, .ref a0), (1, .int x1), (2, .int x2)] → W p l e rmX3_total s m args below meth c H locs 0 0 (MQ below (va_Qi Q (q_B D g A) A) args s rmX3_total.cells rmX3_total.slots A) (F0 m 4 ls []) := by
    intro n
    induction n with
    | zero => intro a0 x1 x2 S H locs ls h; exact absurd h (fun h => h)
    | succ n ih4 =>
      intro a0 x1 x2 S H locs ls h hp hl
      have h : wX3_total_b4 Q (lX3_total_b4 Q n) a0 x1 x2 S := h
      unfold wX3_total_b4 at h
      refine lv_iload_n hx hb dX3_total_4 rfl (q_at hl 2 rfl) ?_
      refine lv_bipush (v := 40) hx hb dX3_total_5 (by decide) ?_
      refine lv_icmp_ge (tgt := 25) hx hb dX3_total_7 (by decide) (fun c_1 => ?_) (fun c_1 => ?_)
      · have h := h.1 c_1
        refine lv_iload_n hx hb dX3_total_25 rfl (q_at hl 1 rfl) ?_
        exact q_iret C hp hr h dX3_total_26
      · have h := h.2 c_1
        refine lv_iload_n hx hb dX3_total_10 rfl (q_at hl 1 rfl) ?_
        refine lv_aload_n hx hb dX3_total_11 rfl (q_at hl 0 rfl) ?_
        refine q_rGR C hp h rfl iX3_total_X3 (by decide) kX3_total_9 dX3_total_12 (fun r_2 h => ?_)
        refine lv_iload_n hx hb dX3_total_15 rfl (q_at hl 2 rfl) ?_
        refine q_rLI C hp h dX3_total_16 (fun v_3 h => ?_)
        refine lv_iadd hx hb dX3_total_17 ?_
        refine q_istn (lv' := [(1, .int (x1 + v_3)), (0, .ref a0), (2, .int x2)]) hx hb dX3_total_18 rfl hl (by decide) rfl (fun ls hl => ?_)
        refine q_inc (x := x2) (v := (x2 + (1 : Int32))) (lv' := [(2, .int (x2 + (1 : Int32))), (1, .int (x1 + v_3)), (0, .ref a0)]) hx hb dX3_total_19 hl (k := 2) rfl rfl (by decide) rfl (fun ls hl => ?_)
        refine lv_goto (tgt := 4) hx hb dX3_total_22 (by decide) ?_
        exact ih4 a0 (x1 + v_3) (x2 + (1 : Int32)) _ _ _ _ h hp (q_sub hl [2, 1, 0] rfl)
  unfold wX3_total at h
  have h := h.2
  refine lv_iconst (v := 0) hx hb dX3_total_0 (by decide) ?_
  refine q_istn (lv' := [(1, .int (0 : Int32)), (0, .ref a0)]) hx hb dX3_total_1 rfl hl (by decide) rfl (fun ls hl => ?_)
  refine lv_iconst (v := 0) hx hb dX3_total_2 (by decide) ?_
  refine q_istn (lv' := [(2, .int (0 : Int32)), (1, .int (0 : Int32)), (0, .ref a0)]) hx hb dX3_total_3 rfl hl (by decide) rfl (fun ls hl => ?_)
  exact j4 q_fuel a0 (0 : Int32) (0 : Int32) _ _ _ _ h hp (q_sub hl [2, 1, 0] rfl)

set_option maxHeartbeats 4000000 in
set_option maxRecDepth 100000 in
theorem RX3_unlikeStarts (l : Launch) (D : va_G) (g : q_A) (S : q_S) (a0 : Nat) (x1 : Int32) (Q : Int32 → q_S → Prop) (h : wX3_unlikeStarts a0 x1 Q S) : q_Mi l yX3_unlikeStarts wsX3_unlikeStarts rmX3_unlikeStarts D g [.ref a0, .int x1] S Q := by
  refine q_Mi.of (cc := cX3_unlikeStarts) (nL := 4) (rt := .int) (by decide +kernel) rfl (Nat.le_of_ble_eq_true rfl) rfl ?_
  intro p e s m args below meth c ls A C hr hnm hp hl
  have C : q_X p s m args meth c cX3_unlikeStarts 4 RX3 wsX3_unlikeStarts D g A := C
  have hx := C.1
  have hb := C.2.1
  have hl : q_l ls 4 [(0, .ref a0), (1, .int x1)] := hl
  have j39 : ∀ (k4 : Nat → Int32 → Int32 → Int32 → q_S → Prop) (ih4 : ∀ (a0 : Nat) (x1 : Int32) (x2 : Int32) (x3 : Int32) (S : q_S) (H : Heap) (locs : List Loc) (ls : Array Slot), k4 a0 x1 x2 x3 S → q_P D g A s.heap S H locs → q_l ls 4 [(0, .ref a0), (1, .int x1), (2, .int x2), (3, .int x3)] → W p l e rmX3_unlikeStarts s m args below meth c H locs 0 0 (MQ below (va_Qi Q (q_B D g A) A) args s rmX3_unlikeStarts.cells rmX3_unlikeStarts.slots A) (F0 m 4 ls [])) (a0 : Nat) (x1 : Int32) (x2 : Int32) (x3 : Int32) (S : q_S) (H : Heap) (locs : List Loc) (ls : Array Slot), wX3_unlikeStarts_b39 Q k4 a0 x1 x2 x3 S → q_P D g A s.heap S H locs → q_l ls 4 [(0, .ref a0), (1, .int x1), (2, .int x2), (3, .int x3)] → W p l e rmX3_unlikeStarts s m args below meth c H locs 0 0 (MQ below (va_Qi Q (q_B D g A) A) args s rmX3_unlikeStarts.cells rmX3_unlikeStarts.slots A) (F0 m 39 ls []) := by
    intro k4 ih4 a0 x1 x2 x3 S H locs ls h hp hl
    unfold wX3_unlikeStarts_b39 at h
    refine q_inc (x := x3) (v := (x3 + (1 : Int32))) (lv' := [(3, .int (x3 + (1 : Int32))), (0, .ref a0), (1, .int x1), (2, .int x2)]) hx hb dX3_unlikeStarts_39 hl (k := 3) rfl rfl (by decide) rfl (fun ls hl => ?_)
    refine lv_goto (tgt := 4) hx hb dX3_unlikeStarts_42 (by decide) ?_
    exact ih4 a0 x1 x2 (x3 + (1 : Int32)) _ _ _ _ h hp (q_sub hl [1, 2, 3, 0] rfl)
  have j36 : ∀ (k4 : Nat → Int32 → Int32 → Int32 → q_S → Prop) (ih4 : ∀ (a0 : Nat) (x1 : Int32) (x2 : Int32) (x3 : Int32) (S : q_S) (H : Heap) (locs : List Loc) (ls : Array Slot), k4 a0 x1 x2 x3 S → q_P D g A s.heap S H locs → q_l ls 4 [(0, .ref a0), (1, .int x1), (2, .int x2), (3, .int x3)] → W p l e rmX3_unlikeStarts s m args below meth c H locs 0 0 (MQ below (va_Qi Q (q_B D g A) A) args s rmX3_unlikeStarts.cells rmX3_unlikeStarts.slots A) (F0 m 4 ls [])) (a0 : Nat) (x1 : Int32) (x2 : Int32) (x3 : Int32) (S : q_S) (H : Heap) (locs : List Loc) (ls : Array Slot), wX3_unlikeStarts_b36 Q k4 a0 x1 x2 x3 S → q_P D g A s.heap S H locs → q_l ls 4 [(0, .ref a0), (1, .int x1), (2, .int x2), (3, .int x3)] → W p l e rmX3_unlikeStarts s m args below meth c H locs 0 0 (MQ below (va_Qi Q (q_B D g A) A) args s rmX3_unlikeStarts.cells rmX3_unlikeStarts.slots A) (F0 m 36 ls []) := by
    intro k4 ih4 a0 x1 x2 x3 S H locs ls h hp hl
    unfold wX3_unlikeStarts_b36 at h
    refine q_inc (x := x2) (v := (x2 + (1 : Int32))) (lv' := [(2, .int (x2 + (1 : Int32))), (0, .ref a0), (1, .int x1), (3, .int x3)]) hx hb dX3_unlikeStarts_36 hl (k := 2) rfl rfl (by decide) rfl (fun ls hl => ?_)
    exact j39 k4 ih4 a0 x1 (x2 + (1 : Int32)) x3 _ _ _ _ h hp (q_sub hl [1, 2, 0, 3] rfl)
  have j4 : ∀ (n : Nat), ∀ (a0 : Nat) (x1 : Int32) (x2 : Int32) (x3 : Int32) (S : q_S) (H : Heap) (locs : List Loc) (ls : Array Slot), lX3_unlikeStarts_b4 Q n a0 x1 x2 x3 S → q_P D g A s.heap S H locs → q_l ls 4 [(0, .ref a0), (1, .int x1), (2, .int x2), (3, .int x3)] → W p l e rmX3_unlikeStarts s m args below meth c H locs 0 0 (MQ below (va_Qi Q (q_B D g A) A) args s rmX3_unlikeStarts.cells rmX3_unlikeStarts.slots A) (F0 m 4 ls []) := by
    intro n
    induction n with
    | zero => intro a0 x1 x2 x3 S H locs ls h; exact absurd h (fun h => h)
    | succ n ih4 =>
      intro a0 x1 x2 x3 S H locs ls h hp hl
      have h : wX3_unlikeStarts_b4 Q (lX3_unlikeStarts_b4 Q n) a0 x1 x2 x3 S := h
      unfold wX3_unlikeStarts_b4 at h
      refine lv_iload_n hx hb dX3_unlikeStarts_4 rfl (q_at hl 3 rfl) ?_
      refine lv_aload_n hx hb dX3_unlikeStarts_5 rfl (q_at hl 0 rfl) ?_
      refine lv_iload_n hx hb dX3_unlikeStarts_6 rfl (q_at hl 1 rfl) ?_
      refine q_finI0 C hp (q_runV (As := [.int x1]) (rest := [.int x3]) C hp (RX3_size l D g _ a0 x1 _ h _) (cwV 1 C.2.2.2.2.1 gX3_unlikeStarts_X3_size rfl rfl rfl (by decide +kernel) ⟨(Nat.le_of_ble_eq_true rfl), (Nat.le_of_ble_eq_true rfl)⟩) h.1 rfl rfl hl.1.1 rfl (Nat.le_of_ble_eq_true rfl) dX3_unlikeStarts_7 ⟨(Nat.le_of_ble_eq_true rfl), (Nat.le_of_ble_eq_true rfl)⟩) rfl rfl (fun v_2 S_1 H locs h hp => ?_)
      refine lv_icmp_ge (tgt := 45) hx hb dX3_unlikeStarts_10 (by decide) (fun c_3 => ?_) (fun c_3 => ?_)
      · have h := h.1 c_3
        refine lv_iload_n hx hb dX3_unlikeStarts_45 rfl (q_at hl 2 rfl) ?_
        exact q_iret C hp hr h dX3_unlikeStarts_46
      · have h := h.2 c_3
        refine lv_iload_n hx hb dX3_unlikeStarts_13 rfl (q_at hl 3 rfl) ?_
        refine lv_if_eq (tgt := 36) hx hb dX3_unlikeStarts_14 (by decide) (fun c_4 => ?_) (fun c_4 => ?_)
        · have h := h.1 c_4
          exact j36 (lX3_unlikeStarts_b4 Q n) ih4 a0 x1 x2 x3 _ _ _ _ h hp (q_sub hl [0, 1, 2, 3] rfl)
        · have h := h.2 c_4
          refine lv_aload_n hx hb dX3_unlikeStarts_17 rfl (q_at hl 0 rfl) ?_
          refine lv_iload_n hx hb dX3_unlikeStarts_18 rfl (q_at hl 1 rfl) ?_
          refine lv_iload_n hx hb dX3_unlikeStarts_19 rfl (q_at hl 3 rfl) ?_
          refine lv_iconst (v := 0) hx hb dX3_unlikeStarts_20 (by decide) ?_
          refine q_finI0 C hp (q_runV (As := [.int x1, .int x3, .int (0 : Int32)]) (rest := []) C hp (RX3_figure l D g _ a0 x1 x3 (0 : Int32) _ h _) (cwV 3 C.2.2.2.2.1 gX3_unlikeStarts_X3_figure rfl rfl rfl (by decide +kernel) ⟨(Nat.le_of_ble_eq_true rfl), (Nat.le_of_ble_eq_true rfl)⟩) h.1 rfl rfl hl.1.1 rfl (Nat.le_of_ble_eq_true rfl) dX3_unlikeStarts_21 ⟨(Nat.le_of_ble_eq_true rfl), (Nat.le_of_ble_eq_true rfl)⟩) rfl rfl (fun v_6 S_5 H locs h hp => ?_)
          refine lv_aload_n hx hb dX3_unlikeStarts_24 rfl (q_at hl 0 rfl) ?_
          refine lv_iload_n hx hb dX3_unlikeStarts_25 rfl (q_at hl 1 rfl) ?_
          refine lv_iload_n hx hb dX3_unlikeStarts_26 rfl (q_at hl 3 rfl) ?_
          refine lv_iconst (v := 1) hx hb dX3_unlikeStarts_27 (by decide) ?_
          refine lv_isub hx hb dX3_unlikeStarts_28 ?_
          refine lv_iconst (v := 0) hx hb dX3_unlikeStarts_29 (by decide) ?_
          refine q_finI0 C hp (q_runV (As := [.int x1, .int (x3 - (1 : Int32)), .int (0 : Int32)]) (rest := [.int v_6]) C hp (RX3_figure l D g _ a0 x1 (x3 - (1 : Int32)) (0 : Int32) _ h _) (cwV 3 C.2.2.2.2.1 gX3_unlikeStarts_X3_figure rfl rfl rfl (by decide +kernel) ⟨(Nat.le_of_ble_eq_true rfl), (Nat.le_of_ble_eq_true rfl)⟩) h.1 rfl rfl hl.1.1 rfl (Nat.le_of_ble_eq_true rfl) dX3_unlikeStarts_30 ⟨(Nat.le_of_ble_eq_true rfl), (Nat.le_of_ble_eq_true rfl)⟩) rfl rfl (fun v_8 S_7 H locs h hp => ?_)
          refine lv_icmp_eq (tgt := 39) hx hb dX3_unlikeStarts_33 (by decide) (fun c_9 => ?_) (fun c_9 => ?_)
          · have h := h.1 c_9
            exact j39 (lX3_unlikeStarts_b4 Q n) ih4 a0 x1 x2 x3 _ _ _ _ h hp (q_sub hl [0, 1, 2, 3] rfl)
          · have h := h.2 c_9
            exact j36 (lX3_unlikeStarts_b4 Q n) ih4 a0 x1 x2 x3 _ _ _ _ h hp (q_sub hl [0, 1, 2, 3] rfl)
  unfold wX3_unlikeStarts at h
  have h := h.2
  refine lv_iconst (v := 0) hx hb dX3_unlikeStarts_0 (by decide) ?_
  refine q_istn (lv' := [(2, .int (0 : Int32)), (0, .ref a0), (1, .int x1)]) hx hb dX3_unlikeStarts_1 rfl hl (by decide) rfl (fun ls hl => ?_)
  refine lv_iconst (v := 0) hx hb dX3_unlikeStarts_2 (by decide) ?_
  refine q_istn (lv' := [(3, .int (0 : Int32)), (2, .int (0 : Int32)), (0, .ref a0), (1, .int x1)]) hx hb dX3_unlikeStarts_3 rfl hl (by decide) rfl (fun ls hl => ?_)
  exact j4 q_fuel a0 x1 (0 : Int32) (0 : Int32) _ _ _ _ h hp (q_sub hl [2, 3, 1, 0] rfl)

set_option maxHeartbeats 4000000 in
set_option maxRecDepth 100000 in
theorem RX3_isAlike (l : Launch) (D : va_G) (g : q_A) (S : q_S) (a0 : Nat) (a1 : Nat) (x2 : Int32) (Q : Int32 → q_S → Prop) (h : wX3_isAlike a0 a1 x2 Q S) : q_Mi l yX3_isAlike wsX3_isAlike rmX3_isAlike D g [.ref a0, .ref a1, .int x2] S Q := by
  refine q_Mi.of (cc := cX3_isAlike) (nL := 5) (rt := .boolean) (by decide +kernel) rfl (Nat.le_of_ble_eq_true rfl) rfl ?_
  intro p e s m args below meth c ls A C hr hnm hp hl
  have C : q_X p s m args meth c cX3_isAlike 5 RX3 wsX3_isAlike D g A := C
  have hx := C.1
  have hb := C.2.1
  have hl : q_l ls 5 [(0, .ref a0), (1, .ref a1), (2, .int x2)] := hl
  have j29 : ∀ (k17 : Nat → Nat → Int32 → Int32 → q_S → Prop) (ih17 : ∀ (a0 : Nat) (a1 : Nat) (x2 : Int32) (x3 : Int32) (S : q_S) (H : Heap) (locs : List Loc) (ls : Array Slot), k17 a0 a1 x2 x3 S → q_P D g A s.heap S H locs → q_l ls 5 [(0, .ref a0), (1, .ref a1), (2, .int x2), (3, .int x3)] → W p l e rmX3_isAlike s m args below meth c H locs 0 0 (MQ below (va_Qi Q (q_B D g A) A) args s rmX3_isAlike.cells rmX3_isAlike.slots A) (F0 m 17 ls [])) (n : Nat), ∀ (a0 : Nat) (a1 : Nat) (x2 : Int32) (x3 : Int32) (x4 : Int32) (S : q_S) (H : Heap) (locs : List Loc) (ls : Array Slot), lX3_isAlike_b29 Q k17 n a0 a1 x2 x3 x4 S → q_P D g A s.heap S H locs → q_l ls 5 [(0, .ref a0), (1, .ref a1), (2, .int x2), (3, .int x3), (4, .int x4)] → W p l e rmX3_isAlike s m args below meth c H locs 0 0 (MQ below (va_Qi Q (q_B D g A) A) args s rmX3_isAlike.cells rmX3_isAlike.slots A) (F0 m 29 ls []) := by
    intro k17 ih17
    intro n
    induction n with
    | zero => intro a0 a1 x2 x3 x4 S H locs ls h; exact absurd h (fun h => h)
    | succ n ih29 =>
      intro a0 a1 x2 x3 x4 S H locs ls h hp hl
      have h : wX3_isAlike_b29 Q k17 (lX3_isAlike_b29 Q k17 n) a0 a1 x2 x3 x4 S := h
      unfold wX3_isAlike_b29 at h
      refine lv_iload hx hb dX3_isAlike_29 (q_at hl 4 rfl) ?_
      refine lv_iconst (v := 4) hx hb dX3_isAlike_31 (by decide) ?_
      refine lv_icmp_ge (tgt := 62) hx hb dX3_isAlike_32 (by decide) (fun c_1 => ?_) (fun c_1 => ?_)
      · have h := h.1 c_1
        refine q_inc (x := x3) (v := (x3 + (1 : Int32))) (lv' := [(3, .int (x3 + (1 : Int32))), (0, .ref a0), (1, .ref a1), (2, .int x2), (4, .int x4)]) hx hb dX3_isAlike_62 hl (k := 3) rfl rfl (by decide) rfl (fun ls hl => ?_)
        refine lv_goto (tgt := 17) hx hb dX3_isAlike_65 (by decide) ?_
        exact ih17 a0 a1 x2 (x3 + (1 : Int32)) _ _ _ _ h hp (q_sub hl [1, 2, 3, 0] rfl)
      · have h := h.2 c_1
        refine lv_aload_n hx hb dX3_isAlike_35 rfl (q_at hl 0 rfl) ?_
        refine lv_iload_n hx hb dX3_isAlike_36 rfl (q_at hl 2 rfl) ?_
        refine lv_iload_n hx hb dX3_isAlike_37 rfl (q_at hl 3 rfl) ?_
        refine lv_iload hx hb dX3_isAlike_38 (q_at hl 4 rfl) ?_
        refine q_finI0 C hp (q_runV (As := [.int x2, .int x3, .int x4]) (rest := []) C hp (RX3_figure l D g _ a0 x2 x3 x4 _ h _) (cwV 3 C.2.2.2.2.1 gX3_isAlike_X3_figure rfl rfl rfl (by decide +kernel) ⟨(Nat.le_of_ble_eq_true rfl), (Nat.le_of_ble_eq_true rfl)⟩) h.1 rfl rfl hl.1.1 rfl (Nat.le_of_ble_eq_true rfl) dX3_isAlike_40 ⟨(Nat.le_of_ble_eq_true rfl), (Nat.le_of_ble_eq_true rfl)⟩) rfl rfl (fun v_3 S_2 H locs h hp => ?_)
        refine lv_aload_n hx hb dX3_isAlike_43 rfl (q_at hl 1 rfl) ?_
        refine lv_iload_n hx hb dX3_isAlike_44 rfl (q_at hl 2 rfl) ?_
        refine lv_iload_n hx hb dX3_isAlike_45 rfl (q_at hl 3 rfl) ?_
        refine lv_iload hx hb dX3_isAlike_46 (q_at hl 4 rfl) ?_
        refine q_finI0 C hp (q_runV (As := [.int x2, .int x3, .int x4]) (rest := [.int v_3]) C hp (RX3_figure l D g _ a1 x2 x3 x4 _ h _) (cwV 3 C.2.2.2.2.1 gX3_isAlike_X3_figure rfl rfl rfl (by decide +kernel) ⟨(Nat.le_of_ble_eq_true rfl), (Nat.le_of_ble_eq_true rfl)⟩) h.1 rfl rfl hl.1.1 rfl (Nat.le_of_ble_eq_true rfl) dX3_isAlike_48 ⟨(Nat.le_of_ble_eq_true rfl), (Nat.le_of_ble_eq_true rfl)⟩) rfl rfl (fun v_5 S_4 H locs h hp => ?_)
        refine lv_icmp_eq (tgt := 56) hx hb dX3_isAlike_51 (by decide) (fun c_6 => ?_) (fun c_6 => ?_)
        · have h := h.1 c_6
          refine q_inc (x := x4) (v := (x4 + (1 : Int32))) (lv' := [(4, .int (x4 + (1 : Int32))), (0, .ref a0), (1, .ref a1), (2, .int x2), (3, .int x3)]) hx hb dX3_isAlike_56 hl (k := 4) rfl rfl (by decide) rfl (fun ls hl => ?_)
          refine lv_goto (tgt := 29) hx hb dX3_isAlike_59 (by decide) ?_
          exact ih29 a0 a1 x2 x3 (x4 + (1 : Int32)) _ _ _ _ h hp (q_sub hl [1, 2, 3, 4, 0] rfl)
        · have h := h.2 c_6
          refine lv_iconst (v := 0) hx hb dX3_isAlike_54 (by decide) ?_
          exact q_zret C hp hr h dX3_isAlike_55
  have j17 : ∀ (n : Nat), ∀ (a0 : Nat) (a1 : Nat) (x2 : Int32) (x3 : Int32) (S : q_S) (H : Heap) (locs : List Loc) (ls : Array Slot), lX3_isAlike_b17 Q n a0 a1 x2 x3 S → q_P D g A s.heap S H locs → q_l ls 5 [(0, .ref a0), (1, .ref a1), (2, .int x2), (3, .int x3)] → W p l e rmX3_isAlike s m args below meth c H locs 0 0 (MQ below (va_Qi Q (q_B D g A) A) args s rmX3_isAlike.cells rmX3_isAlike.slots A) (F0 m 17 ls []) := by
    intro n
    induction n with
    | zero => intro a0 a1 x2 x3 S H locs ls h; exact absurd h (fun h => h)
    | succ n ih17 =>
      intro a0 a1 x2 x3 S H locs ls h hp hl
      have h : wX3_isAlike_b17 Q (lX3_isAlike_b17 Q n) a0 a1 x2 x3 S := h
      unfold wX3_isAlike_b17 at h
      refine lv_iload_n hx hb dX3_isAlike_17 rfl (q_at hl 3 rfl) ?_
      refine lv_aload_n hx hb dX3_isAlike_18 rfl (q_at hl 0 rfl) ?_
      refine lv_iload_n hx hb dX3_isAlike_19 rfl (q_at hl 2 rfl) ?_
      refine q_finI0 C hp (q_runV (As := [.int x2]) (rest := [.int x3]) C hp (RX3_size l D g _ a0 x2 _ h _) (cwV 1 C.2.2.2.2.1 gX3_isAlike_X3_size rfl rfl rfl (by decide +kernel) ⟨(Nat.le_of_ble_eq_true rfl), (Nat.le_of_ble_eq_true rfl)⟩) h.1 rfl rfl hl.1.1 rfl (Nat.le_of_ble_eq_true rfl) dX3_isAlike_20 ⟨(Nat.le_of_ble_eq_true rfl), (Nat.le_of_ble_eq_true rfl)⟩) rfl rfl (fun v_8 S_7 H locs h hp => ?_)
      refine lv_icmp_ge (tgt := 68) hx hb dX3_isAlike_23 (by decide) (fun c_9 => ?_) (fun c_9 => ?_)
      · have h := h.1 c_9
        refine lv_iconst (v := 1) hx hb dX3_isAlike_68 (by decide) ?_
        exact q_zret C hp hr h dX3_isAlike_69
      · have h := h.2 c_9
        refine lv_iconst (v := 0) hx hb dX3_isAlike_26 (by decide) ?_
        refine q_ist (lv' := [(4, .int (0 : Int32)), (0, .ref a0), (1, .ref a1), (2, .int x2), (3, .int x3)]) hx hb dX3_isAlike_27 hl (by decide) rfl (fun ls hl => ?_)
        exact j29 (lX3_isAlike_b17 Q n) ih17 q_fuel a0 a1 x2 x3 (0 : Int32) _ _ _ _ h hp (q_sub hl [1, 2, 3, 4, 0] rfl)
  unfold wX3_isAlike at h
  have h := h.2
  refine lv_aload_n hx hb dX3_isAlike_0 rfl (q_at hl 0 rfl) ?_
  refine lv_iload_n hx hb dX3_isAlike_1 rfl (q_at hl 2 rfl) ?_
  refine q_finI0 C hp (q_runV (As := [.int x2]) (rest := []) C hp (RX3_size l D g _ a0 x2 _ h _) (cwV 1 C.2.2.2.2.1 gX3_isAlike_X3_size rfl rfl rfl (by decide +kernel) ⟨(Nat.le_of_ble_eq_true rfl), (Nat.le_of_ble_eq_true rfl)⟩) h.1 rfl rfl hl.1.1 rfl (Nat.le_of_ble_eq_true rfl) dX3_isAlike_2 ⟨(Nat.le_of_ble_eq_true rfl), (Nat.le_of_ble_eq_true rfl)⟩) rfl rfl (fun v_11 S_10 H locs h hp => ?_)
  refine lv_aload_n hx hb dX3_isAlike_5 rfl (q_at hl 1 rfl) ?_
  refine lv_iload_n hx hb dX3_isAlike_6 rfl (q_at hl 2 rfl) ?_
  refine q_finI0 C hp (q_runV (As := [.int x2]) (rest := [.int v_11]) C hp (RX3_size l D g _ a1 x2 _ h _) (cwV 1 C.2.2.2.2.1 gX3_isAlike_X3_size rfl rfl rfl (by decide +kernel) ⟨(Nat.le_of_ble_eq_true rfl), (Nat.le_of_ble_eq_true rfl)⟩) h.1 rfl rfl hl.1.1 rfl (Nat.le_of_ble_eq_true rfl) dX3_isAlike_7 ⟨(Nat.le_of_ble_eq_true rfl), (Nat.le_of_ble_eq_true rfl)⟩) rfl rfl (fun v_13 S_12 H locs h hp => ?_)
  refine lv_icmp_eq (tgt := 15) hx hb dX3_isAlike_10 (by decide) (fun c_14 => ?_) (fun c_14 => ?_)
  · have h := h.1 c_14
    refine lv_iconst (v := 0) hx hb dX3_isAlike_15 (by decide) ?_
    refine q_istn (lv' := [(3, .int (0 : Int32)), (0, .ref a0), (1, .ref a1), (2, .int x2)]) hx hb dX3_isAlike_16 rfl hl (by decide) rfl (fun ls hl => ?_)
    exact j17 q_fuel a0 a1 x2 (0 : Int32) _ _ _ _ h hp (q_sub hl [1, 2, 3, 0] rfl)
  · have h := h.2 c_14
    refine lv_iconst (v := 0) hx hb dX3_isAlike_13 (by decide) ?_
    exact q_zret C hp hr h dX3_isAlike_14

set_option maxHeartbeats 4000000 in
set_option maxRecDepth 100000 in
theorem RX3_hasRhythm (l : Launch) (D : va_G) (g : q_A) (S : q_S) (a0 : Nat) (x1 : Int32) (x2 : Int32) (x3 : Int32) (Q : Int32 → q_S → Prop) (h : wX3_hasRhythm a0 x1 x2 x3 Q S) : q_Mi l yX3_hasRhythm wsX3_hasRhythm rmX3_hasRhythm D g [.ref a0, .int x1, .int x2, .int x3] S Q := by
  refine q_Mi.of (cc := cX3_hasRhythm) (nL := 5) (rt := .boolean) (by decide +kernel) rfl (Nat.le_of_ble_eq_true rfl) rfl ?_
  intro p e s m args below meth c ls A C hr hnm hp hl
  have C : q_X p s m args meth c cX3_hasRhythm 5 RX3 wsX3_hasRhythm D g A := C
  have hx := C.1
  have hb := C.2.1
  have hl : q_l ls 5 [(0, .ref a0), (1, .int x1), (2, .int x2), (3, .int x3)] := hl
  have j39 : ∀ (k3 : Nat → Int32 → Int32 → Int32 → Int32 → q_S → Prop) (ih3 : ∀ (a0 : Nat) (x1 : Int32) (x2 : Int32) (x3 : Int32) (x4 : Int32) (S : q_S) (H : Heap) (locs : List Loc) (ls : Array Slot), k3 a0 x1 x2 x3 x4 S → q_P D g A s.heap S H locs → q_l ls 5 [(0, .ref a0), (1, .int x1), (2, .int x2), (3, .int x3), (4, .int x4)] → W p l e rmX3_hasRhythm s m args below meth c H locs 0 0 (MQ below (va_Qi Q (q_B D g A) A) args s rmX3_hasRhythm.cells rmX3_hasRhythm.slots A) (F0 m 3 ls [])) (a0 : Nat) (x1 : Int32) (x2 : Int32) (x3 : Int32) (x4 : Int32) (S : q_S) (H : Heap) (locs : List Loc) (ls : Array Slot), wX3_hasRhythm_b39 Q k3 a0 x1 x2 x3 x4 S → q_P D g A s.heap S H locs → q_l ls 5 [(0, .ref a0), (1, .int x1), (2, .int x2), (3, .int x3), (4, .int x4)] → W p l e rmX3_hasRhythm s m args below meth c H locs 0 0 (MQ below (va_Qi Q (q_B D g A) A) args s rmX3_hasRhythm.cells rmX3_hasRhythm.slots A) (F0 m 39 ls []) := by
    intro k3 ih3 a0 x1 x2 x3 x4 S H locs ls h hp hl
    unfold wX3_hasRhythm_b39 at h
    refine q_inc (x := x4) (v := (x4 + (1 : Int32))) (lv' := [(4, .int (x4 + (1 : Int32))), (0, .ref a0), (1, .int x1), (2, .int x2), (3, .int x3)]) hx hb dX3_hasRhythm_39 hl (k := 4) rfl rfl (by decide) rfl (fun ls hl => ?_)
    refine lv_goto (tgt := 3) hx hb dX3_hasRhythm_42 (by decide) ?_
    exact ih3 a0 x1 x2 x3 (x4 + (1 : Int32)) _ _ _ _ h hp (q_sub hl [1, 2, 3, 4, 0] rfl)
  have j3 : ∀ (n : Nat), ∀ (a0 : Nat) (x1 : Int32) (x2 : Int32) (x3 : Int32) (x4 : Int32) (S : q_S) (H : Heap) (locs : List Loc) (ls : Array Slot), lX3_hasRhythm_b3 Q n a0 x1 x2 x3 x4 S → q_P D g A s.heap S H locs → q_l ls 5 [(0, .ref a0), (1, .int x1), (2, .int x2), (3, .int x3), (4, .int x4)] → W p l e rmX3_hasRhythm s m args below meth c H locs 0 0 (MQ below (va_Qi Q (q_B D g A) A) args s rmX3_hasRhythm.cells rmX3_hasRhythm.slots A) (F0 m 3 ls []) := by
    intro n
    induction n with
    | zero => intro a0 x1 x2 x3 x4 S H locs ls h; exact absurd h (fun h => h)
    | succ n ih3 =>
      intro a0 x1 x2 x3 x4 S H locs ls h hp hl
      have h : wX3_hasRhythm_b3 Q (lX3_hasRhythm_b3 Q n) a0 x1 x2 x3 x4 S := h
      unfold wX3_hasRhythm_b3 at h
      refine lv_iload hx hb dX3_hasRhythm_3 (q_at hl 4 rfl) ?_
      refine lv_aload_n hx hb dX3_hasRhythm_5 rfl (q_at hl 0 rfl) ?_
      refine lv_iload_n hx hb dX3_hasRhythm_6 rfl (q_at hl 1 rfl) ?_
      refine q_finI0 C hp (q_runV (As := [.int x1]) (rest := [.int x4]) C hp (RX3_size l D g _ a0 x1 _ h _) (cwV 1 C.2.2.2.2.1 gX3_hasRhythm_X3_size rfl rfl rfl (by decide +kernel) ⟨(Nat.le_of_ble_eq_true rfl), (Nat.le_of_ble_eq_true rfl)⟩) h.1 rfl rfl hl.1.1 rfl (Nat.le_of_ble_eq_true rfl) dX3_hasRhythm_7 ⟨(Nat.le_of_ble_eq_true rfl), (Nat.le_of_ble_eq_true rfl)⟩) rfl rfl (fun v_2 S_1 H locs h hp => ?_)
      refine lv_icmp_ge (tgt := 45) hx hb dX3_hasRhythm_10 (by decide) (fun c_3 => ?_) (fun c_3 => ?_)
      · have h := h.1 c_3
        refine lv_iconst (v := 0) hx hb dX3_hasRhythm_45 (by decide) ?_
        exact q_zret C hp hr h dX3_hasRhythm_46
      · have h := h.2 c_3
        refine lv_aload_n hx hb dX3_hasRhythm_13 rfl (q_at hl 0 rfl) ?_
        refine lv_iload_n hx hb dX3_hasRhythm_14 rfl (q_at hl 1 rfl) ?_
        refine lv_iload hx hb dX3_hasRhythm_15 (q_at hl 4 rfl) ?_
        refine lv_iconst (v := 0) hx hb dX3_hasRhythm_17 (by decide) ?_
        refine q_finI0 C hp (q_runV (As := [.int x1, .int x4, .int (0 : Int32)]) (rest := []) C hp (RX3_figure l D g _ a0 x1 x4 (0 : Int32) _ h _) (cwV 3 C.2.2.2.2.1 gX3_hasRhythm_X3_figure rfl rfl rfl (by decide +kernel) ⟨(Nat.le_of_ble_eq_true rfl), (Nat.le_of_ble_eq_true rfl)⟩) h.1 rfl rfl hl.1.1 rfl (Nat.le_of_ble_eq_true rfl) dX3_hasRhythm_18 ⟨(Nat.le_of_ble_eq_true rfl), (Nat.le_of_ble_eq_true rfl)⟩) rfl rfl (fun v_5 S_4 H locs h hp => ?_)
        refine lv_iload_n hx hb dX3_hasRhythm_21 rfl (q_at hl 2 rfl) ?_
        refine lv_icmp_ne (tgt := 39) hx hb dX3_hasRhythm_22 (by decide) (fun c_6 => ?_) (fun c_6 => ?_)
        · have h := h.1 c_6
          exact j39 (lX3_hasRhythm_b3 Q n) ih3 a0 x1 x2 x3 x4 _ _ _ _ h hp (q_sub hl [0, 1, 2, 3, 4] rfl)
        · have h := h.2 c_6
          refine lv_aload_n hx hb dX3_hasRhythm_25 rfl (q_at hl 0 rfl) ?_
          refine lv_iload_n hx hb dX3_hasRhythm_26 rfl (q_at hl 1 rfl) ?_
          refine lv_iload hx hb dX3_hasRhythm_27 (q_at hl 4 rfl) ?_
          refine lv_iconst (v := 1) hx hb dX3_hasRhythm_29 (by decide) ?_
          refine q_finI0 C hp (q_runV (As := [.int x1, .int x4, .int (1 : Int32)]) (rest := []) C hp (RX3_figure l D g _ a0 x1 x4 (1 : Int32) _ h _) (cwV 3 C.2.2.2.2.1 gX3_hasRhythm_X3_figure rfl rfl rfl (by decide +kernel) ⟨(Nat.le_of_ble_eq_true rfl), (Nat.le_of_ble_eq_true rfl)⟩) h.1 rfl rfl hl.1.1 rfl (Nat.le_of_ble_eq_true rfl) dX3_hasRhythm_30 ⟨(Nat.le_of_ble_eq_true rfl), (Nat.le_of_ble_eq_true rfl)⟩) rfl rfl (fun v_8 S_7 H locs h hp => ?_)
          refine lv_iload_n hx hb dX3_hasRhythm_33 rfl (q_at hl 3 rfl) ?_
          refine lv_icmp_ne (tgt := 39) hx hb dX3_hasRhythm_34 (by decide) (fun c_9 => ?_) (fun c_9 => ?_)
          · have h := h.1 c_9
            exact j39 (lX3_hasRhythm_b3 Q n) ih3 a0 x1 x2 x3 x4 _ _ _ _ h hp (q_sub hl [0, 1, 2, 3, 4] rfl)
          · have h := h.2 c_9
            refine lv_iconst (v := 1) hx hb dX3_hasRhythm_37 (by decide) ?_
            exact q_zret C hp hr h dX3_hasRhythm_38
  unfold wX3_hasRhythm at h
  have h := h.2
  refine lv_iconst (v := 0) hx hb dX3_hasRhythm_0 (by decide) ?_
  refine q_ist (lv' := [(4, .int (0 : Int32)), (0, .ref a0), (1, .int x1), (2, .int x2), (3, .int x3)]) hx hb dX3_hasRhythm_1 hl (by decide) rfl (fun ls hl => ?_)
  exact j3 q_fuel a0 x1 x2 x3 (0 : Int32) _ _ _ _ h hp (q_sub hl [1, 2, 3, 4, 0] rfl)

set_option maxHeartbeats 4000000 in
set_option maxRecDepth 100000 in
theorem RX3_hasRhythmIn (l : Launch) (D : va_G) (g : q_A) (S : q_S) (a0 : Nat) (a1 : Nat) (x2 : Int32) (Q : Int32 → q_S → Prop) (h : wX3_hasRhythmIn a0 a1 x2 Q S) : q_Mi l yX3_hasRhythmIn wsX3_hasRhythmIn rmX3_hasRhythmIn D g [.ref a0, .ref a1, .int x2] S Q := by
  refine q_Mi.of (cc := cX3_hasRhythmIn) (nL := 4) (rt := .boolean) (by decide +kernel) rfl (Nat.le_of_ble_eq_true rfl) rfl ?_
  intro p e s m args below meth c ls A C hr hnm hp hl
  have C : q_X p s m args meth c cX3_hasRhythmIn 4 RX3 wsX3_hasRhythmIn D g A := C
  have hx := C.1
  have hb := C.2.1
  have hl : q_l ls 4 [(0, .ref a0), (1, .ref a1), (2, .int x2)] := hl
  have j2 : ∀ (n : Nat), ∀ (a0 : Nat) (a1 : Nat) (x2 : Int32) (x3 : Int32) (S : q_S) (H : Heap) (locs : List Loc) (ls : Array Slot), lX3_hasRhythmIn_b2 Q n a0 a1 x2 x3 S → q_P D g A s.heap S H locs → q_l ls 4 [(0, .ref a0), (1, .ref a1), (2, .int x2), (3, .int x3)] → W p l e rmX3_hasRhythmIn s m args below meth c H locs 0 0 (MQ below (va_Qi Q (q_B D g A) A) args s rmX3_hasRhythmIn.cells rmX3_hasRhythmIn.slots A) (F0 m 2 ls []) := by
    intro n
    induction n with
    | zero => intro a0 a1 x2 x3 S H locs ls h; exact absurd h (fun h => h)
    | succ n ih2 =>
      intro a0 a1 x2 x3 S H locs ls h hp hl
      have h : wX3_hasRhythmIn_b2 Q (lX3_hasRhythmIn_b2 Q n) a0 a1 x2 x3 S := h
      unfold wX3_hasRhythmIn_b2 at h
      refine lv_iload_n hx hb dX3_hasRhythmIn_2 rfl (q_at hl 3 rfl) ?_
      refine lv_aload_n hx hb dX3_hasRhythmIn_3 rfl (q_at hl 0 rfl) ?_
      refine lv_iload_n hx hb dX3_hasRhythmIn_4 rfl (q_at hl 2 rfl) ?_
      refine q_finI0 C hp (q_runV (As := [.int x2]) (rest := [.int x3]) C hp (RX3_size l D g _ a0 x2 _ h _) (cwV 1 C.2.2.2.2.1 gX3_hasRhythmIn_X3_size rfl rfl rfl (by decide +kernel) ⟨(Nat.le_of_ble_eq_true rfl), (Nat.le_of_ble_eq_true rfl)⟩) h.1 rfl rfl hl.1.1 rfl (Nat.le_of_ble_eq_true rfl) dX3_hasRhythmIn_5 ⟨(Nat.le_of_ble_eq_true rfl), (Nat.le_of_ble_eq_true rfl)⟩) rfl rfl (fun v_2 S_1 H locs h hp => ?_)
      refine lv_icmp_ge (tgt := 41) hx hb dX3_hasRhythmIn_8 (by decide) (fun c_3 => ?_) (fun c_3 => ?_)
      · have h := h.1 c_3
        refine lv_iconst (v := 1) hx hb dX3_hasRhythmIn_41 (by decide) ?_
        exact q_zret C hp hr h dX3_hasRhythmIn_42
      · have h := h.2 c_3
        refine lv_aload_n hx hb dX3_hasRhythmIn_11 rfl (q_at hl 1 rfl) ?_
        refine lv_iload_n hx hb dX3_hasRhythmIn_12 rfl (q_at hl 2 rfl) ?_
        refine lv_aload_n hx hb dX3_hasRhythmIn_13 rfl (q_at hl 0 rfl) ?_
        refine lv_iload_n hx hb dX3_hasRhythmIn_14 rfl (q_at hl 2 rfl) ?_
        refine lv_iload_n hx hb dX3_hasRhythmIn_15 rfl (q_at hl 3 rfl) ?_
        refine lv_iconst (v := 0) hx hb dX3_hasRhythmIn_16 (by decide) ?_
        refine q_finI0 C hp (q_runV (As := [.int x2, .int x3, .int (0 : Int32)]) (rest := [.int x2, .ref a1]) C hp (RX3_figure l D g _ a0 x2 x3 (0 : Int32) _ h _) (cwV 3 C.2.2.2.2.1 gX3_hasRhythmIn_X3_figure rfl rfl rfl (by decide +kernel) ⟨(Nat.le_of_ble_eq_true rfl), (Nat.le_of_ble_eq_true rfl)⟩) h.1 rfl rfl hl.1.1 rfl (Nat.le_of_ble_eq_true rfl) dX3_hasRhythmIn_17 ⟨(Nat.le_of_ble_eq_true rfl), (Nat.le_of_ble_eq_true rfl)⟩) rfl rfl (fun v_5 S_4 H locs h hp => ?_)
        refine lv_aload_n hx hb dX3_hasRhythmIn_20 rfl (q_at hl 0 rfl) ?_
        refine lv_iload_n hx hb dX3_hasRhythmIn_21 rfl (q_at hl 2 rfl) ?_
        refine lv_iload_n hx hb dX3_hasRhythmIn_22 rfl (q_at hl 3 rfl) ?_
        refine lv_iconst (v := 1) hx hb dX3_hasRhythmIn_23 (by decide) ?_
        refine q_finI0 C hp (q_runV (As := [.int x2, .int x3, .int (1 : Int32)]) (rest := [.int v_5, .int x2, .ref a1]) C hp (RX3_figure l D g _ a0 x2 x3 (1 : Int32) _ h _) (cwV 3 C.2.2.2.2.1 gX3_hasRhythmIn_X3_figure rfl rfl rfl (by decide +kernel) ⟨(Nat.le_of_ble_eq_true rfl), (Nat.le_of_ble_eq_true rfl)⟩) h.1 rfl rfl hl.1.1 rfl (Nat.le_of_ble_eq_true rfl) dX3_hasRhythmIn_24 ⟨(Nat.le_of_ble_eq_true rfl), (Nat.le_of_ble_eq_true rfl)⟩) rfl rfl (fun v_7 S_6 H locs h hp => ?_)
        refine q_finI0 C hp (q_runV (As := [.int x2, .int v_5, .int v_7]) (rest := []) C hp (RX3_hasRhythm l D g _ a1 x2 v_5 v_7 _ h _) (cwV 3 C.2.2.2.2.1 gX3_hasRhythmIn_X3_hasRhythm rfl rfl rfl (by decide +kernel) ⟨(Nat.le_of_ble_eq_true rfl), (Nat.le_of_ble_eq_true rfl)⟩) h.1 rfl rfl hl.1.1 rfl (Nat.le_of_ble_eq_true rfl) dX3_hasRhythmIn_27 ⟨(Nat.le_of_ble_eq_true rfl), (Nat.le_of_ble_eq_true rfl)⟩) rfl rfl (fun v_9 S_8 H locs h hp => ?_)
        refine lv_if_ne (tgt := 35) hx hb dX3_hasRhythmIn_30 (by decide) (fun c_10 => ?_) (fun c_10 => ?_)
        · have h := h.1 c_10
          refine q_inc (x := x3) (v := (x3 + (1 : Int32))) (lv' := [(3, .int (x3 + (1 : Int32))), (0, .ref a0), (1, .ref a1), (2, .int x2)]) hx hb dX3_hasRhythmIn_35 hl (k := 3) rfl rfl (by decide) rfl (fun ls hl => ?_)
          refine lv_goto (tgt := 2) hx hb dX3_hasRhythmIn_38 (by decide) ?_
          exact ih2 a0 a1 x2 (x3 + (1 : Int32)) _ _ _ _ h hp (q_sub hl [1, 2, 3, 0] rfl)
        · have h := h.2 c_10
          refine lv_iconst (v := 0) hx hb dX3_hasRhythmIn_33 (by decide) ?_
          exact q_zret C hp hr h dX3_hasRhythmIn_34
  unfold wX3_hasRhythmIn at h
  have h := h.2
  refine lv_iconst (v := 0) hx hb dX3_hasRhythmIn_0 (by decide) ?_
  refine q_istn (lv' := [(3, .int (0 : Int32)), (0, .ref a0), (1, .ref a1), (2, .int x2)]) hx hb dX3_hasRhythmIn_1 rfl hl (by decide) rfl (fun ls hl => ?_)
  exact j2 q_fuel a0 a1 x2 (0 : Int32) _ _ _ _ h hp (q_sub hl [1, 2, 3, 0] rfl)
