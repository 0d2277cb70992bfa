set_option maxRecDepth 20000 in
theorem ggX4_init_X3_init : GoodIn wsX4_init wsX3_init := goodIn_r _ [11, 12, 2, 3, 4, 13, 14, 18, 19] (by decide +kernel) (by decide +kernel)
set_option maxRecDepth 20000 in
theorem gX4_init_X3_init_n17 : GoodIn wsX4_init (wsX3_init) := ggX4_init_X3_init
theorem dX4_init_0 : decode cX4_init 0 = .ok (.aload_n 0, 1) := by decide +kernel
theorem dX4_init_1 : decode cX4_init 1 = .ok (.invokespecial 3, 3) := by decide +kernel
theorem dX4_init_4 : decode cX4_init 4 = .ok (.aload_n 0, 1) := by decide +kernel
theorem dX4_init_5 : decode cX4_init 5 = .ok (.sipush 280, 3) := by decide +kernel
theorem dX4_init_8 : decode cX4_init 8 = .ok (.newarray .int, 2) := by decide +kernel
theorem dX4_init_10 : decode cX4_init 10 = .ok (.putfield 9, 3) := by decide +kernel
theorem dX4_init_13 : decode cX4_init 13 = .ok (.aload_n 0, 1) := by decide +kernel
theorem dX4_init_14 : decode cX4_init 14 = .ok (.new 15, 3) := by decide +kernel
theorem dX4_init_17 : decode cX4_init 17 = .ok (.dup, 1) := by decide +kernel
theorem dX4_init_18 : decode cX4_init 18 = .ok (.invokespecial 17, 3) := by decide +kernel
theorem dX4_init_21 : decode cX4_init 21 = .ok (.putfield 18, 3) := by decide +kernel
theorem dX4_init_24 : decode cX4_init 24 = .ok (.return_, 1) := by decide +kernel
set_option maxRecDepth 20000 in
theorem ggX4_clear_X3_clearFrom : GoodIn wsX4_clear wsX3_clearFrom := goodIn_r _ [7, 8, 9, 10, 11, 12, 16, 17] (by decide +kernel) (by decide +kernel)
set_option maxRecDepth 20000 in
theorem gX4_clear_X3_clearFrom : GoodIn wsX4_clear (wsV RX4 26 RX3 yX3_clearFrom wsX3_clearFrom) := goodIn_app (goodIn_of _ (by decide +kernel)) ggX4_clear_X3_clearFrom
theorem dX4_clear_0 : decode cX4_clear 0 = .ok (.aload_n 0, 1) := by decide +kernel
theorem dX4_clear_1 : decode cX4_clear 1 = .ok (.iconst 0, 1) := by decide +kernel
theorem dX4_clear_2 : decode cX4_clear 2 = .ok (.putfield 22, 3) := by decide +kernel
theorem dX4_clear_5 : decode cX4_clear 5 = .ok (.aload_n 0, 1) := by decide +kernel
theorem dX4_clear_6 : decode cX4_clear 6 = .ok (.getfield 18, 3) := by decide +kernel
theorem dX4_clear_9 : decode cX4_clear 9 = .ok (.iconst 0, 1) := by decide +kernel
theorem dX4_clear_10 : decode cX4_clear 10 = .ok (.bipush 40, 2) := by decide +kernel
theorem dX4_clear_12 : decode cX4_clear 12 = .ok (.invokevirtual 26, 3) := by decide +kernel
theorem dX4_clear_15 : decode cX4_clear 15 = .ok (.return_, 1) := by decide +kernel
theorem dX4_hasRow_0 : decode cX4_hasRow 0 = .ok (.iload_n 1, 1) := by decide +kernel
theorem dX4_hasRow_1 : decode cX4_hasRow 1 = .ok (.ifCond .lt 15, 3) := by decide +kernel
theorem dX4_hasRow_4 : decode cX4_hasRow 4 = .ok (.iload_n 1, 1) := by decide +kernel
theorem dX4_hasRow_5 : decode cX4_hasRow 5 = .ok (.aload_n 0, 1) := by decide +kernel
theorem dX4_hasRow_6 : decode cX4_hasRow 6 = .ok (.getfield 22, 3) := by decide +kernel
theorem dX4_hasRow_9 : decode cX4_hasRow 9 = .ok (.if_icmp .ge 7, 3) := by decide +kernel
theorem dX4_hasRow_12 : decode cX4_hasRow 12 = .ok (.iconst 1, 1) := by decide +kernel
theorem dX4_hasRow_13 : decode cX4_hasRow 13 = .ok (.goto 4, 3) := by decide +kernel
theorem dX4_hasRow_16 : decode cX4_hasRow 16 = .ok (.iconst 0, 1) := by decide +kernel
theorem dX4_hasRow_17 : decode cX4_hasRow 17 = .ok (.ireturn, 1) := by decide +kernel
set_option maxRecDepth 20000 in
theorem ggX4_figure_X4_hasRow : GoodIn wsX4_figure wsX4_hasRow := goodIn_r _ [6, 7, 8, 9, 10] (by decide +kernel) (by decide +kernel)
set_option maxRecDepth 20000 in
theorem gX4_figure_X4_hasRow : GoodIn wsX4_figure (wsV RX4 30 RX4 yX4_hasRow wsX4_hasRow) := goodIn_app (goodIn_of _ (by decide +kernel)) ggX4_figure_X4_hasRow
theorem dX4_figure_0 : decode cX4_figure 0 = .ok (.aload_n 0, 1) := by decide +kernel
theorem dX4_figure_1 : decode cX4_figure 1 = .ok (.iload_n 1, 1) := by decide +kernel
theorem dX4_figure_2 : decode cX4_figure 2 = .ok (.invokevirtual 30, 3) := by decide +kernel
theorem dX4_figure_5 : decode cX4_figure 5 = .ok (.ifCond .eq 13, 3) := by decide +kernel
theorem dX4_figure_8 : decode cX4_figure 8 = .ok (.iload_n 2, 1) := by decide +kernel
theorem dX4_figure_9 : decode cX4_figure 9 = .ok (.ifCond .lt 9, 3) := by decide +kernel
theorem dX4_figure_12 : decode cX4_figure 12 = .ok (.iload_n 2, 1) := by decide +kernel
theorem dX4_figure_13 : decode cX4_figure 13 = .ok (.bipush 7, 2) := by decide +kernel
theorem dX4_figure_15 : decode cX4_figure 15 = .ok (.if_icmp .lt 6, 3) := by decide +kernel
theorem dX4_figure_18 : decode cX4_figure 18 = .ok (.bipush (-100), 2) := by decide +kernel
theorem dX4_figure_20 : decode cX4_figure 20 = .ok (.ireturn, 1) := by decide +kernel
theorem dX4_figure_21 : decode cX4_figure 21 = .ok (.aload_n 0, 1) := by decide +kernel
theorem dX4_figure_22 : decode cX4_figure 22 = .ok (.getfield 9, 3) := by decide +kernel
theorem dX4_figure_25 : decode cX4_figure 25 = .ok (.iload_n 1, 1) := by decide +kernel
theorem dX4_figure_26 : decode cX4_figure 26 = .ok (.bipush 7, 2) := by decide +kernel
theorem dX4_figure_28 : decode cX4_figure 28 = .ok (.imul, 1) := by decide +kernel
theorem dX4_figure_29 : decode cX4_figure 29 = .ok (.iload_n 2, 1) := by decide +kernel
theorem dX4_figure_30 : decode cX4_figure 30 = .ok (.iadd, 1) := by decide +kernel
theorem dX4_figure_31 : decode cX4_figure 31 = .ok (.iaload, 1) := by decide +kernel
theorem dX4_figure_32 : decode cX4_figure 32 = .ok (.ireturn, 1) := by decide +kernel
set_option maxRecDepth 20000 in
theorem ggX4_setFigure_X4_hasRow : GoodIn wsX4_setFigure wsX4_hasRow := goodIn_r _ [6, 7, 8, 9, 10] (by decide +kernel) (by decide +kernel)
set_option maxRecDepth 20000 in
theorem gX4_setFigure_X4_hasRow : GoodIn wsX4_setFigure (wsV RX4 30 RX4 yX4_hasRow wsX4_hasRow) := goodIn_app (goodIn_of _ (by decide +kernel)) ggX4_setFigure_X4_hasRow
theorem dX4_setFigure_0 : decode cX4_setFigure 0 = .ok (.aload_n 0, 1) := by decide +kernel
theorem dX4_setFigure_1 : decode cX4_setFigure 1 = .ok (.iload_n 1, 1) := by decide +kernel
theorem dX4_setFigure_2 : decode cX4_setFigure 2 = .ok (.invokevirtual 30, 3) := by decide +kernel
theorem dX4_setFigure_5 : decode cX4_setFigure 5 = .ok (.ifCond .eq 25, 3) := by decide +kernel
theorem dX4_setFigure_8 : decode cX4_setFigure 8 = .ok (.iload_n 2, 1) := by decide +kernel
theorem dX4_setFigure_9 : decode cX4_setFigure 9 = .ok (.ifCond .lt 21, 3) := by decide +kernel
theorem dX4_setFigure_12 : decode cX4_setFigure 12 = .ok (.iload_n 2, 1) := by decide +kernel
theorem dX4_setFigure_13 : decode cX4_setFigure 13 = .ok (.bipush 7, 2) := by decide +kernel
theorem dX4_setFigure_15 : decode cX4_setFigure 15 = .ok (.if_icmp .ge 15, 3) := by decide +kernel
theorem dX4_setFigure_18 : decode cX4_setFigure 18 = .ok (.aload_n 0, 1) := by decide +kernel
theorem dX4_setFigure_19 : decode cX4_setFigure 19 = .ok (.getfield 9, 3) := by decide +kernel
theorem dX4_setFigure_22 : decode cX4_setFigure 22 = .ok (.iload_n 1, 1) := by decide +kernel
theorem dX4_setFigure_23 : decode cX4_setFigure 23 = .ok (.bipush 7, 2) := by decide +kernel
theorem dX4_setFigure_25 : decode cX4_setFigure 25 = .ok (.imul, 1) := by decide +kernel
theorem dX4_setFigure_26 : decode cX4_setFigure 26 = .ok (.iload_n 2, 1) := by decide +kernel
theorem dX4_setFigure_27 : decode cX4_setFigure 27 = .ok (.iadd, 1) := by decide +kernel
theorem dX4_setFigure_28 : decode cX4_setFigure 28 = .ok (.iload_n 3, 1) := by decide +kernel
theorem dX4_setFigure_29 : decode cX4_setFigure 29 = .ok (.iastore, 1) := by decide +kernel
theorem dX4_setFigure_30 : decode cX4_setFigure 30 = .ok (.return_, 1) := by decide +kernel
set_option maxRecDepth 20000 in
theorem ggX4_addRow_X4_setFigure : GoodIn wsX4_addRow wsX4_setFigure := goodIn_r _ [6, 7, 8, 9, 10, 5, 11, 1, 12, 13, 14] (by decide +kernel) (by decide +kernel)
set_option maxRecDepth 20000 in
theorem gX4_addRow_X4_setFigure : GoodIn wsX4_addRow (wsV RX4 34 RX4 yX4_setFigure wsX4_setFigure) := goodIn_app (goodIn_of _ (by decide +kernel)) ggX4_addRow_X4_setFigure
theorem dX4_addRow_0 : decode cX4_addRow 0 = .ok (.aload_n 0, 1) := by decide +kernel
theorem dX4_addRow_1 : decode cX4_addRow 1 = .ok (.getfield 22, 3) := by decide +kernel
theorem dX4_addRow_4 : decode cX4_addRow 4 = .ok (.bipush 40, 2) := by decide +kernel
theorem dX4_addRow_6 : decode cX4_addRow 6 = .ok (.if_icmp .lt 6, 3) := by decide +kernel
theorem dX4_addRow_9 : decode cX4_addRow 9 = .ok (.bipush (-100), 2) := by decide +kernel
theorem dX4_addRow_11 : decode cX4_addRow 11 = .ok (.ireturn, 1) := by decide +kernel
theorem dX4_addRow_12 : decode cX4_addRow 12 = .ok (.aload_n 0, 1) := by decide +kernel
theorem dX4_addRow_13 : decode cX4_addRow 13 = .ok (.getfield 22, 3) := by decide +kernel
theorem dX4_addRow_16 : decode cX4_addRow 16 = .ok (.istore 4, 2) := by decide +kernel
theorem dX4_addRow_18 : decode cX4_addRow 18 = .ok (.aload_n 0, 1) := by decide +kernel
theorem dX4_addRow_19 : decode cX4_addRow 19 = .ok (.dup, 1) := by decide +kernel
theorem dX4_addRow_20 : decode cX4_addRow 20 = .ok (.getfield 22, 3) := by decide +kernel
theorem dX4_addRow_23 : decode cX4_addRow 23 = .ok (.iconst 1, 1) := by decide +kernel
theorem dX4_addRow_24 : decode cX4_addRow 24 = .ok (.iadd, 1) := by decide +kernel
theorem dX4_addRow_25 : decode cX4_addRow 25 = .ok (.putfield 22, 3) := by decide +kernel
theorem dX4_addRow_28 : decode cX4_addRow 28 = .ok (.aload_n 0, 1) := by decide +kernel
theorem dX4_addRow_29 : decode cX4_addRow 29 = .ok (.iload 4, 2) := by decide +kernel
theorem dX4_addRow_31 : decode cX4_addRow 31 = .ok (.iconst 0, 1) := by decide +kernel
theorem dX4_addRow_32 : decode cX4_addRow 32 = .ok (.iload_n 1, 1) := by decide +kernel
theorem dX4_addRow_33 : decode cX4_addRow 33 = .ok (.invokevirtual 34, 3) := by decide +kernel
theorem dX4_addRow_36 : decode cX4_addRow 36 = .ok (.aload_n 0, 1) := by decide +kernel
theorem dX4_addRow_37 : decode cX4_addRow 37 = .ok (.iload 4, 2) := by decide +kernel
theorem dX4_addRow_39 : decode cX4_addRow 39 = .ok (.iconst 1, 1) := by decide +kernel
theorem dX4_addRow_40 : decode cX4_addRow 40 = .ok (.iload_n 2, 1) := by decide +kernel
theorem dX4_addRow_41 : decode cX4_addRow 41 = .ok (.invokevirtual 34, 3) := by decide +kernel
theorem dX4_addRow_44 : decode cX4_addRow 44 = .ok (.aload_n 0, 1) := by decide +kernel
theorem dX4_addRow_45 : decode cX4_addRow 45 = .ok (.iload 4, 2) := by decide +kernel
theorem dX4_addRow_47 : decode cX4_addRow 47 = .ok (.iconst 2, 1) := by decide +kernel
theorem dX4_addRow_48 : decode cX4_addRow 48 = .ok (.iload_n 3, 1) := by decide +kernel
theorem dX4_addRow_49 : decode cX4_addRow 49 = .ok (.invokevirtual 34, 3) := by decide +kernel
theorem dX4_addRow_52 : decode cX4_addRow 52 = .ok (.aload_n 0, 1) := by decide +kernel
theorem dX4_addRow_53 : decode cX4_addRow 53 = .ok (.iload 4, 2) := by decide +kernel
theorem dX4_addRow_55 : decode cX4_addRow 55 = .ok (.iconst 5, 1) := by decide +kernel
theorem dX4_addRow_56 : decode cX4_addRow 56 = .ok (.iconst 0, 1) := by decide +kernel
theorem dX4_addRow_57 : decode cX4_addRow 57 = .ok (.invokevirtual 34, 3) := by decide +kernel
theorem dX4_addRow_60 : decode cX4_addRow 60 = .ok (.aload_n 0, 1) := by decide +kernel
theorem dX4_addRow_61 : decode cX4_addRow 61 = .ok (.iload 4, 2) := by decide +kernel
theorem dX4_addRow_63 : decode cX4_addRow 63 = .ok (.bipush 6, 2) := by decide +kernel
theorem dX4_addRow_65 : decode cX4_addRow 65 = .ok (.bipush (-100), 2) := by decide +kernel
theorem dX4_addRow_67 : decode cX4_addRow 67 = .ok (.invokevirtual 34, 3) := by decide +kernel
theorem dX4_addRow_70 : decode cX4_addRow 70 = .ok (.iload 4, 2) := by decide +kernel
theorem dX4_addRow_72 : decode cX4_addRow 72 = .ok (.ireturn, 1) := by decide +kernel
set_option maxRecDepth 20000 in
theorem ggX4_isRowAlike_X4_figure : GoodIn wsX4_isRowAlike wsX4_figure := goodIn_r _ [6, 7, 8, 9, 10, 5, 11, 12, 28, 29, 30] (by decide +kernel) (by decide +kernel)
set_option maxRecDepth 20000 in
theorem gX4_isRowAlike_X4_figure : GoodIn wsX4_isRowAlike (wsV RX4 38 RX4 yX4_figure wsX4_figure) := goodIn_app (goodIn_of _ (by decide +kernel)) ggX4_isRowAlike_X4_figure
set_option maxRecDepth 20000 in
theorem ggX4_isRowAlike_X3_isAlike : GoodIn wsX4_isRowAlike wsX3_isAlike := goodIn_r _ [17, 18, 19, 20, 16, 21, 22, 23, 24, 25, 26, 27, 31, 32] (by decide +kernel) (by decide +kernel)
set_option maxRecDepth 20000 in
theorem gX4_isRowAlike_X3_isAlike : GoodIn wsX4_isRowAlike (wsV RX4 42 RX3 yX3_isAlike wsX3_isAlike) := goodIn_app (goodIn_of _ (by decide +kernel)) ggX4_isRowAlike_X3_isAlike
theorem dX4_isRowAlike_0 : decode cX4_isRowAlike 0 = .ok (.iconst 0, 1) := by decide +kernel
theorem dX4_isRowAlike_1 : decode cX4_isRowAlike 1 = .ok (.istore_n 3, 1) := by decide +kernel
theorem dX4_isRowAlike_2 : decode cX4_isRowAlike 2 = .ok (.iload_n 3, 1) := by decide +kernel
theorem dX4_isRowAlike_3 : decode cX4_isRowAlike 3 = .ok (.bipush 7, 2) := by decide +kernel
theorem dX4_isRowAlike_5 : decode cX4_isRowAlike 5 = .ok (.if_icmp .ge 26, 3) := by decide +kernel
theorem dX4_isRowAlike_8 : decode cX4_isRowAlike 8 = .ok (.aload_n 0, 1) := by decide +kernel
theorem dX4_isRowAlike_9 : decode cX4_isRowAlike 9 = .ok (.iload_n 2, 1) := by decide +kernel
theorem dX4_isRowAlike_10 : decode cX4_isRowAlike 10 = .ok (.iload_n 3, 1) := by decide +kernel
theorem dX4_isRowAlike_11 : decode cX4_isRowAlike 11 = .ok (.invokevirtual 38, 3) := by decide +kernel
theorem dX4_isRowAlike_14 : decode cX4_isRowAlike 14 = .ok (.aload_n 1, 1) := by decide +kernel
theorem dX4_isRowAlike_15 : decode cX4_isRowAlike 15 = .ok (.iload_n 2, 1) := by decide +kernel
theorem dX4_isRowAlike_16 : decode cX4_isRowAlike 16 = .ok (.iload_n 3, 1) := by decide +kernel
theorem dX4_isRowAlike_17 : decode cX4_isRowAlike 17 = .ok (.invokevirtual 38, 3) := by decide +kernel
theorem dX4_isRowAlike_20 : decode cX4_isRowAlike 20 = .ok (.if_icmp .eq 5, 3) := by decide +kernel
theorem dX4_isRowAlike_23 : decode cX4_isRowAlike 23 = .ok (.iconst 0, 1) := by decide +kernel
theorem dX4_isRowAlike_24 : decode cX4_isRowAlike 24 = .ok (.ireturn, 1) := by decide +kernel
theorem dX4_isRowAlike_25 : decode cX4_isRowAlike 25 = .ok (.iinc 3 1, 3) := by decide +kernel
theorem dX4_isRowAlike_28 : decode cX4_isRowAlike 28 = .ok (.goto (-26), 3) := by decide +kernel
theorem dX4_isRowAlike_31 : decode cX4_isRowAlike 31 = .ok (.aload_n 0, 1) := by decide +kernel
theorem dX4_isRowAlike_32 : decode cX4_isRowAlike 32 = .ok (.getfield 18, 3) := by decide +kernel
theorem dX4_isRowAlike_35 : decode cX4_isRowAlike 35 = .ok (.aload_n 1, 1) := by decide +kernel
theorem dX4_isRowAlike_36 : decode cX4_isRowAlike 36 = .ok (.getfield 18, 3) := by decide +kernel
theorem dX4_isRowAlike_39 : decode cX4_isRowAlike 39 = .ok (.iload_n 2, 1) := by decide +kernel
theorem dX4_isRowAlike_40 : decode cX4_isRowAlike 40 = .ok (.invokevirtual 42, 3) := by decide +kernel
theorem dX4_isRowAlike_43 : decode cX4_isRowAlike 43 = .ok (.ireturn, 1) := by decide +kernel
set_option maxRecDepth 20000 in
theorem ggX4_firstUnlike_X4_hasRow : GoodIn wsX4_firstUnlike wsX4_hasRow := goodIn_r _ [10, 1, 36, 37, 38] (by decide +kernel) (by decide +kernel)
set_option maxRecDepth 20000 in
theorem gX4_firstUnlike_X4_hasRow : GoodIn wsX4_firstUnlike (wsV RX4 30 RX4 yX4_hasRow wsX4_hasRow) := goodIn_app (goodIn_of _ (by decide +kernel)) ggX4_firstUnlike_X4_hasRow
set_option maxRecDepth 20000 in
theorem ggX4_firstUnlike_X4_isRowAlike : GoodIn wsX4_firstUnlike wsX4_isRowAlike := goodIn_r _ [14, 15, 16, 17, 18, 9, 19, 20, 6, 7, 8, 10, 1, 21, 22, 23, 24, 25, 26, 27, 28, 29, 30, 31, 32, 33, 34, 35, 36, 37, 38, 39, 40] (by decide +kernel) (by decide +kernel)
set_option maxRecDepth 20000 in
theorem gX4_firstUnlike_X4_isRowAlike : GoodIn wsX4_firstUnlike (wsV RX4 51 RX4 yX4_isRowAlike wsX4_isRowAlike) := goodIn_app (goodIn_of _ (by decide +kernel)) ggX4_firstUnlike_X4_isRowAlike
theorem dX4_firstUnlike_0 : decode cX4_firstUnlike 0 = .ok (.aload_n 0, 1) := by decide +kernel
theorem dX4_firstUnlike_1 : decode cX4_firstUnlike 1 = .ok (.getfield 22, 3) := by decide +kernel
theorem dX4_firstUnlike_4 : decode cX4_firstUnlike 4 = .ok (.aload_n 1, 1) := by decide +kernel
theorem dX4_firstUnlike_5 : decode cX4_firstUnlike 5 = .ok (.getfield 22, 3) := by decide +kernel
theorem dX4_firstUnlike_8 : decode cX4_firstUnlike 8 = .ok (.invokestatic 46, 3) := by decide +kernel
theorem dX4_firstUnlike_11 : decode cX4_firstUnlike 11 = .ok (.istore_n 2, 1) := by decide +kernel
theorem dX4_firstUnlike_12 : decode cX4_firstUnlike 12 = .ok (.iconst 0, 1) := by decide +kernel
theorem dX4_firstUnlike_13 : decode cX4_firstUnlike 13 = .ok (.istore_n 3, 1) := by decide +kernel
theorem dX4_firstUnlike_14 : decode cX4_firstUnlike 14 = .ok (.iload_n 3, 1) := by decide +kernel
theorem dX4_firstUnlike_15 : decode cX4_firstUnlike 15 = .ok (.iload_n 2, 1) := by decide +kernel
theorem dX4_firstUnlike_16 : decode cX4_firstUnlike 16 = .ok (.if_icmp .ge 36, 3) := by decide +kernel
theorem dX4_firstUnlike_19 : decode cX4_firstUnlike 19 = .ok (.aload_n 0, 1) := by decide +kernel
theorem dX4_firstUnlike_20 : decode cX4_firstUnlike 20 = .ok (.iload_n 3, 1) := by decide +kernel
theorem dX4_firstUnlike_21 : decode cX4_firstUnlike 21 = .ok (.invokevirtual 30, 3) := by decide +kernel
theorem dX4_firstUnlike_24 : decode cX4_firstUnlike 24 = .ok (.ifCond .eq 20, 3) := by decide +kernel
theorem dX4_firstUnlike_27 : decode cX4_firstUnlike 27 = .ok (.aload_n 1, 1) := by decide +kernel
theorem dX4_firstUnlike_28 : decode cX4_firstUnlike 28 = .ok (.iload_n 3, 1) := by decide +kernel
theorem dX4_firstUnlike_29 : decode cX4_firstUnlike 29 = .ok (.invokevirtual 30, 3) := by decide +kernel
theorem dX4_firstUnlike_32 : decode cX4_firstUnlike 32 = .ok (.ifCond .eq 12, 3) := by decide +kernel
theorem dX4_firstUnlike_35 : decode cX4_firstUnlike 35 = .ok (.aload_n 0, 1) := by decide +kernel
theorem dX4_firstUnlike_36 : decode cX4_firstUnlike 36 = .ok (.aload_n 1, 1) := by decide +kernel
theorem dX4_firstUnlike_37 : decode cX4_firstUnlike 37 = .ok (.iload_n 3, 1) := by decide +kernel
theorem dX4_firstUnlike_38 : decode cX4_firstUnlike 38 = .ok (.invokevirtual 51, 3) := by decide +kernel
theorem dX4_firstUnlike_41 : decode cX4_firstUnlike 41 = .ok (.ifCond .ne 5, 3) := by decide +kernel
theorem dX4_firstUnlike_44 : decode cX4_firstUnlike 44 = .ok (.iload_n 3, 1) := by decide +kernel
theorem dX4_firstUnlike_45 : decode cX4_firstUnlike 45 = .ok (.ireturn, 1) := by decide +kernel
theorem dX4_firstUnlike_46 : decode cX4_firstUnlike 46 = .ok (.iinc 3 1, 3) := by decide +kernel
theorem dX4_firstUnlike_49 : decode cX4_firstUnlike 49 = .ok (.goto (-35), 3) := by decide +kernel
theorem dX4_firstUnlike_52 : decode cX4_firstUnlike 52 = .ok (.bipush (-100), 2) := by decide +kernel
theorem dX4_firstUnlike_54 : decode cX4_firstUnlike 54 = .ok (.ireturn, 1) := by decide +kernel
theorem dX4_isLongRest_0 : decode cX4_isLongRest 0 = .ok (.iload_n 1, 1) := by decide +kernel
theorem dX4_isLongRest_1 : decode cX4_isLongRest 1 = .ok (.ifCond .lt 45, 3) := by decide +kernel
theorem dX4_isLongRest_4 : decode cX4_isLongRest 4 = .ok (.iload_n 1, 1) := by decide +kernel
theorem dX4_isLongRest_5 : decode cX4_isLongRest 5 = .ok (.aload_n 0, 1) := by decide +kernel
theorem dX4_isLongRest_6 : decode cX4_isLongRest 6 = .ok (.getfield 22, 3) := by decide +kernel
theorem dX4_isLongRest_9 : decode cX4_isLongRest 9 = .ok (.if_icmp .ge 37, 3) := by decide +kernel
theorem dX4_isLongRest_12 : decode cX4_isLongRest 12 = .ok (.aload_n 0, 1) := by decide +kernel
theorem dX4_isLongRest_13 : decode cX4_isLongRest 13 = .ok (.getfield 9, 3) := by decide +kernel
theorem dX4_isLongRest_16 : decode cX4_isLongRest 16 = .ok (.iload_n 1, 1) := by decide +kernel
theorem dX4_isLongRest_17 : decode cX4_isLongRest 17 = .ok (.bipush 7, 2) := by decide +kernel
theorem dX4_isLongRest_19 : decode cX4_isLongRest 19 = .ok (.imul, 1) := by decide +kernel
theorem dX4_isLongRest_20 : decode cX4_isLongRest 20 = .ok (.iconst 0, 1) := by decide +kernel
theorem dX4_isLongRest_21 : decode cX4_isLongRest 21 = .ok (.iadd, 1) := by decide +kernel
theorem dX4_isLongRest_22 : decode cX4_isLongRest 22 = .ok (.iaload, 1) := by decide +kernel
theorem dX4_isLongRest_23 : decode cX4_isLongRest 23 = .ok (.iconst 1, 1) := by decide +kernel
theorem dX4_isLongRest_24 : decode cX4_isLongRest 24 = .ok (.if_icmp .ne 22, 3) := by decide +kernel
theorem dX4_isLongRest_27 : decode cX4_isLongRest 27 = .ok (.aload_n 0, 1) := by decide +kernel
theorem dX4_isLongRest_28 : decode cX4_isLongRest 28 = .ok (.getfield 9, 3) := by decide +kernel
theorem dX4_isLongRest_31 : decode cX4_isLongRest 31 = .ok (.iload_n 1, 1) := by decide +kernel
theorem dX4_isLongRest_32 : decode cX4_isLongRest 32 = .ok (.bipush 7, 2) := by decide +kernel
theorem dX4_isLongRest_34 : decode cX4_isLongRest 34 = .ok (.imul, 1) := by decide +kernel
theorem dX4_isLongRest_35 : decode cX4_isLongRest 35 = .ok (.iconst 2, 1) := by decide +kernel
theorem dX4_isLongRest_36 : decode cX4_isLongRest 36 = .ok (.iadd, 1) := by decide +kernel
theorem dX4_isLongRest_37 : decode cX4_isLongRest 37 = .ok (.iaload, 1) := by decide +kernel
theorem dX4_isLongRest_38 : decode cX4_isLongRest 38 = .ok (.iconst 2, 1) := by decide +kernel
theorem dX4_isLongRest_39 : decode cX4_isLongRest 39 = .ok (.if_icmp .lt 7, 3) := by decide +kernel
theorem dX4_isLongRest_42 : decode cX4_isLongRest 42 = .ok (.iconst 1, 1) := by decide +kernel
theorem dX4_isLongRest_43 : decode cX4_isLongRest 43 = .ok (.goto 4, 3) := by decide +kernel
theorem dX4_isLongRest_46 : decode cX4_isLongRest 46 = .ok (.iconst 0, 1) := by decide +kernel
theorem dX4_isLongRest_47 : decode cX4_isLongRest 47 = .ok (.ireturn, 1) := by decide +kernel
theorem kX4_init_9 : Cond.fieldLink RX4 9 (TX4 0).1 (TX4 0).2.1 (TX4 0).2.2.1 ∈ wsX4_init := by decide +kernel
theorem kX4_init_18 : Cond.fieldLink RX4 18 (TX4 1).1 (TX4 1).2.1 (TX4 1).2.2.1 ∈ wsX4_init := by decide +kernel
theorem iX4_init_X3 : ∀ w ∈ u_ws RX3 TX3 2, w ∈ wsX4_init := by decide +kernel
theorem iX4_init_X4 : ∀ w ∈ u_ws RX4 TX4 3, w ∈ wsX4_init := by decide +kernel
theorem kaX4_init_I : Cond.arrayClass .int ∈ wsX4_init := by decide +kernel
theorem kcX4_init_15 : Cond.classLink RX4 15 RX3 ∈ wsX4_init := by decide +kernel
theorem kqX4_init : Cond.code objectInit ⟨#[0xb1]⟩ 1 none ∈ wsX4_init := by decide +kernel
theorem kiX4_init_X3 : Cond.initialized RX3 ∈ wsX4_init := by decide +kernel
theorem ksX4_init_X3_init : Cond.initialized yX3_init.cls ∈ wsX4_init := by decide +kernel
theorem kpX4_init : Cond.instanceMethod objectInit ∈ wsX4_init := by decide +kernel
theorem knX4_init_X3_init : Cond.instanceMethod yX3_init ∈ wsX4_init := by decide +kernel
theorem ktX4_init_X3 : Cond.instantiable RX3 2 ∈ wsX4_init := by decide +kernel
theorem koX4_init : Cond.methodLink RX4 3 objectInit ∈ wsX4_init := by decide +kernel
theorem klX4_init_X3_init : Cond.methodLinkNest RX4 17 yX3_init RX7 ∈ q_nest := by decide +kernel
set_option maxHeartbeats 4000000 in
set_option maxRecDepth 100000 in
theorem RX4_init (l : Launch) (D : va_G) (g : q_A) (S : q_S) (a0 : Nat) (Q : q_S → Prop) (h : wX4_init a0 Q S) : q_Mv l yX4_init wsX4_init rmX4_init D g [.ref a0] S Q := by
  refine q_Mv.of (cc := cX4_init) (nL := 1) (by decide +kernel) rfl (Nat.le_of_ble_eq_true rfl) rfl ?_
  intro p e s m args below meth c ls A C hr hnm hp hl
  have C : q_X p s m args meth c cX4_init 1 RX4 wsX4_init D g A := C
  have hx := C.1
  have hb := C.2.1
  have hl : q_l ls 1 [(0, .ref a0)] := hl
  unfold wX4_init at h
  refine lv_aload_n hx hb dX4_init_0 rfl (q_at hl 0 rfl) ?_
  refine q_objI C koX4_init kpX4_init kqX4_init hl.1.1 dX4_init_1 (Nat.le_of_ble_eq_true rfl) (Nat.le_of_ble_eq_true rfl) ?_
  refine lv_aload_n hx hb dX4_init_4 rfl (q_at hl 0 rfl) ?_
  refine lv_sipush (v := 280) hx hb dX4_init_5 (by decide) ?_
  refine q_rNI (N' := 280) C hp h kaX4_init_I (by decide) (by decide) (by decide) (Nat.le_of_ble_eq_true rfl) (Nat.le_of_ble_eq_true rfl) dX4_init_8 (fun q_1 S_2 H h hp => ?_)
  refine W.widen (k := 1) (n := 280) (Nat.le_of_ble_eq_true rfl) (Nat.le_of_ble_eq_true rfl) ?_
  refine q_fP C hp h hnm tyX4 tyX4_ok nmX4 rfl iX4_init_X4 (by decide) kX4_init_9 rfl rfl rfl rfl rfl dX4_init_10 (fun S_3 H locs h hp => ?_)
  refine lv_aload_n hx hb dX4_init_13 rfl (q_at hl 0 rfl) ?_
  refine q_rNO (N := 2) C hp h tyX3 tyX3_ok rfl iX4_init_X3 kcX4_init_15 ktX4_init_X3 kiX4_init_X3 (fun j hj => by match j, hj with | 0, _ => rfl | 1, _ => rfl | j + 2, hj => exact absurd hj (by omega)) (Nat.le_of_ble_eq_true rfl) (Nat.le_of_ble_eq_true rfl) dX4_init_14 (fun q_4 S_5 H h hp => ?_)
  refine W.widen (k := 2) (n := 282) (Nat.le_of_ble_eq_true rfl) (Nat.le_of_ble_eq_true rfl) ?_
  refine lv_dup hx hb dX4_init_17 rfl ?_
  refine q_finV C hp (q_runIN (As := []) (rest := [.ref q_4, .ref a0]) C hp (RX3_init l D g _ q_4 _ h _) ggX4_init_X3_init rfl klX4_init_X3_init ksX4_init_X3_init knX4_init_X3_init (by decide +kernel) ⟨(Nat.le_of_ble_eq_true rfl), (Nat.le_of_ble_eq_true rfl)⟩ rfl rfl hl.1.1 rfl (Nat.le_of_ble_eq_true rfl) dX4_init_18 ⟨(Nat.le_of_ble_eq_true rfl), (Nat.le_of_ble_eq_true rfl)⟩) (fun S_6 H locs h hp => ?_)
  refine W.widen (k := 4) (n := 1602) (Nat.le_of_ble_eq_true rfl) (Nat.le_of_ble_eq_true rfl) ?_
  refine q_fP C hp h hnm tyX4 tyX4_ok nmX4 rfl iX4_init_X4 (by decide) kX4_init_18 rfl rfl rfl rfl rfl dX4_init_21 (fun S_7 H locs h hp => ?_)
  refine W.widen (k := rmX4_init.cells) (n := rmX4_init.slots) (Nat.le_of_ble_eq_true rfl) (Nat.le_of_ble_eq_true rfl) ?_
  exact q_vret C hp hr h dX4_init_24
theorem kX4_clear_18 : Cond.fieldLink RX4 18 (TX4 1).1 (TX4 1).2.1 (TX4 1).2.2.1 ∈ wsX4_clear := by decide +kernel
theorem kX4_clear_22 : Cond.fieldLink RX4 22 (TX4 2).1 (TX4 2).2.1 (TX4 2).2.2.1 ∈ wsX4_clear := by decide +kernel
theorem iX4_clear_X4 : ∀ w ∈ u_ws RX4 TX4 3, w ∈ wsX4_clear := by decide +kernel
set_option maxHeartbeats 4000000 in
set_option maxRecDepth 100000 in
theorem RX4_clear (l : Launch) (D : va_G) (g : q_A) (S : q_S) (a0 : Nat) (Q : q_S → Prop) (h : wX4_clear a0 Q S) : q_Mv l yX4_clear wsX4_clear rmX4_clear D g [.ref a0] S Q := by
  refine q_Mv.of (cc := cX4_clear) (nL := 1) (by decide +kernel) rfl (Nat.le_of_ble_eq_true rfl) rfl ?_
  intro p e s m args below meth c ls A C hr hnm hp hl
  have C : q_X p s m args meth c cX4_clear 1 RX4 wsX4_clear D g A := C
  have hx := C.1
  have hb := C.2.1
  have hl : q_l ls 1 [(0, .ref a0)] := hl
  unfold wX4_clear at h
  have h := h.2
  refine lv_aload_n hx hb dX4_clear_0 rfl (q_at hl 0 rfl) ?_
  refine lv_iconst (v := 0) hx hb dX4_clear_1 (by decide) ?_
  refine q_rP C hp h tyX4 tyX4_ok nmX4 rfl iX4_clear_X4 (by decide) kX4_clear_22 rfl rfl rfl rfl dX4_clear_2 (fun S_1 H locs h hp => ?_)
  refine lv_aload_n hx hb dX4_clear_5 rfl (q_at hl 0 rfl) ?_
  refine q_rGR C hp h rfl iX4_clear_X4 (by decide) kX4_clear_18 dX4_clear_6 (fun r_2 h => ?_)
  refine lv_iconst (v := 0) hx hb dX4_clear_9 (by decide) ?_
  refine lv_bipush (v := 40) hx hb dX4_clear_10 (by decide) ?_
  refine q_finV0 C hp (q_runV (As := [.int (0 : Int32), .int (40 : Int32)]) (rest := []) C hp (RX3_clearFrom l D g _ r_2 (0 : Int32) (40 : Int32) _ h _) (cwV 2 C.2.2.2.2.1 gX4_clear_X3_clearFrom rfl rfl rfl (by decide +kernel) ⟨(Nat.le_of_ble_eq_true rfl), (Nat.le_of_ble_eq_true rfl)⟩) h.1 rfl rfl hl.1.1 rfl (Nat.le_of_ble_eq_true rfl) dX4_clear_12 ⟨(Nat.le_of_ble_eq_true rfl), (Nat.le_of_ble_eq_true rfl)⟩) rfl rfl (fun S_3 H locs h hp => ?_)
  exact q_vret C hp hr h dX4_clear_15
theorem kX4_hasRow_22 : Cond.fieldLink RX4 22 (TX4 2).1 (TX4 2).2.1 (TX4 2).2.2.1 ∈ wsX4_hasRow := by decide +kernel
theorem iX4_hasRow_X4 : ∀ w ∈ u_ws RX4 TX4 3, w ∈ wsX4_hasRow := by decide +kernel
set_option maxHeartbeats 4000000 in
set_option maxRecDepth 100000 in
theorem RX4_hasRow (l : Launch) (D : va_G) (g : q_A) (S : q_S) (a0 : Nat) (x1 : Int32) (Q : Int32 → q_S → Prop) (h : wX4_hasRow a0 x1 Q S) : q_Mi l yX4_hasRow wsX4_hasRow rmX4_hasRow D g [.ref a0, .int x1] S Q := by
  refine q_Mi.of (cc := cX4_hasRow) (nL := 2) (rt := .boolean) (by decide +kernel) rfl (Nat.le_of_ble_eq_true rfl) rfl ?_
  intro p e s m args below meth c ls A C hr hnm hp hl
  have C : q_X p s m args meth c cX4_hasRow 2 RX4 wsX4_hasRow D g A := C
  have hx := C.1
  have hb := C.2.1
  have hl : q_l ls 2 [(0, .ref a0), (1, .int x1)] := hl
  unfold wX4_hasRow at h
  have h := h.2
  refine lv_iload_n hx hb dX4_hasRow_0 rfl (q_at hl 1 rfl) ?_
  refine lv_if_lt (tgt := 16) hx hb dX4_hasRow_1 (by decide) (fun c_1 => ?_) (fun c_1 => ?_)
  · have h := h.1 c_1
    refine lv_iconst (v := 0) hx hb dX4_hasRow_16 (by decide) ?_
    exact q_zret C hp hr h dX4_hasRow_17
  · have h := h.2 c_1
    refine lv_iload_n hx hb dX4_hasRow_4 rfl (q_at hl 1 rfl) ?_
    refine lv_aload_n hx hb dX4_hasRow_5 rfl (q_at hl 0 rfl) ?_
    refine q_rGI C hp h rfl iX4_hasRow_X4 (by decide) kX4_hasRow_22 dX4_hasRow_6 (fun v_2 h => ?_)
    refine lv_icmp_ge (tgt := 16) hx hb dX4_hasRow_9 (by decide) (fun c_3 => ?_) (fun c_3 => ?_)
    · have h := h.1 c_3
      refine lv_iconst (v := 0) hx hb dX4_hasRow_16 (by decide) ?_
      exact q_zret C hp hr h dX4_hasRow_17
    · have h := h.2 c_3
      refine lv_iconst (v := 1) hx hb dX4_hasRow_12 (by decide) ?_
      refine lv_goto (tgt := 17) hx hb dX4_hasRow_13 (by decide) ?_
      exact q_zret C hp hr h dX4_hasRow_17
theorem kX4_setFigure_9 : Cond.fieldLink RX4 9 (TX4 0).1 (TX4 0).2.1 (TX4 0).2.2.1 ∈ wsX4_setFigure := by decide +kernel
theorem iX4_setFigure_X4 : ∀ w ∈ u_ws RX4 TX4 3, w ∈ wsX4_setFigure := by decide +kernel
set_option maxHeartbeats 4000000 in
set_option maxRecDepth 100000 in
theorem RX4_setFigure (l : Launch) (D : va_G) (g : q_A) (S : q_S) (a0 : Nat) (x1 : Int32) (x2 : Int32) (x3 : Int32) (Q : q_S → Prop) (h : wX4_setFigure a0 x1 x2 x3 Q S) : q_Mv l yX4_setFigure wsX4_setFigure rmX4_setFigure D g [.ref a0, .int x1, .int x2, .int x3] S Q := by
  refine q_Mv.of (cc := cX4_setFigure) (nL := 4) (by decide +kernel) rfl (Nat.le_of_ble_eq_true rfl) rfl ?_
  intro p e s m args below meth c ls A C hr hnm hp hl
  have C : q_X p s m args meth c cX4_setFigure 4 RX4 wsX4_setFigure D g A := C
  have hx := C.1
  have hb := C.2.1
  have hl : q_l ls 4 [(0, .ref a0), (1, .int x1), (2, .int x2), (3, .int x3)] := hl
  unfold wX4_setFigure at h
  have h := h.2
  refine lv_aload_n hx hb dX4_setFigure_0 rfl (q_at hl 0 rfl) ?_
  refine lv_iload_n hx hb dX4_setFigure_1 rfl (q_at hl 1 rfl) ?_
  refine q_finI0 C hp (q_runV (As := [.int x1]) (rest := []) C hp (RX4_hasRow l D g _ a0 x1 _ h _) (cwV 1 C.2.2.2.2.1 gX4_setFigure_X4_hasRow rfl rfl rfl (by decide +kernel) ⟨(Nat.le_of_ble_eq_true rfl), (Nat.le_of_ble_eq_true rfl)⟩) h.1 rfl rfl hl.1.1 rfl (Nat.le_of_ble_eq_true rfl) dX4_setFigure_2 ⟨(Nat.le_of_ble_eq_true rfl), (Nat.le_of_ble_eq_true rfl)⟩) rfl rfl (fun v_2 S_1 H locs h hp => ?_)
  refine lv_if_eq (tgt := 30) hx hb dX4_setFigure_5 (by decide) (fun c_3 => ?_) (fun c_3 => ?_)
  · have h := h.1 c_3
    exact q_vret C hp hr h dX4_setFigure_30
  · have h := h.2 c_3
    refine lv_iload_n hx hb dX4_setFigure_8 rfl (q_at hl 2 rfl) ?_
    refine lv_if_lt (tgt := 30) hx hb dX4_setFigure_9 (by decide) (fun c_4 => ?_) (fun c_4 => ?_)
    · have h := h.1 c_4
      exact q_vret C hp hr h dX4_setFigure_30
    · have h := h.2 c_4
      refine lv_iload_n hx hb dX4_setFigure_12 rfl (q_at hl 2 rfl) ?_
      refine lv_bipush (v := 7) hx hb dX4_setFigure_13 (by decide) ?_
      refine lv_icmp_ge (tgt := 30) hx hb dX4_setFigure_15 (by decide) (fun c_5 => ?_) (fun c_5 => ?_)
      · have h := h.1 c_5
        exact q_vret C hp hr h dX4_setFigure_30
      · have h := h.2 c_5
        refine lv_aload_n hx hb dX4_setFigure_18 rfl (q_at hl 0 rfl) ?_
        refine q_rGR C hp h rfl iX4_setFigure_X4 (by decide) kX4_setFigure_9 dX4_setFigure_19 (fun r_6 h => ?_)
        refine lv_iload_n hx hb dX4_setFigure_22 rfl (q_at hl 1 rfl) ?_
        refine lv_bipush (v := 7) hx hb dX4_setFigure_23 (by decide) ?_
        refine lv_imul hx hb dX4_setFigure_25 ?_
        refine lv_iload_n hx hb dX4_setFigure_26 rfl (q_at hl 2 rfl) ?_
        refine lv_iadd hx hb dX4_setFigure_27 ?_
        refine lv_iload_n hx hb dX4_setFigure_28 rfl (q_at hl 3 rfl) ?_
        refine q_rSI C hp h dX4_setFigure_29 (fun S_7 H locs h hp => ?_)
        exact q_vret C hp hr h dX4_setFigure_30
theorem kX4_addRow_22 : Cond.fieldLink RX4 22 (TX4 2).1 (TX4 2).2.1 (TX4 2).2.2.1 ∈ wsX4_addRow := by decide +kernel
theorem iX4_addRow_X4 : ∀ w ∈ u_ws RX4 TX4 3, w ∈ wsX4_addRow := by decide +kernel
set_option maxHeartbeats 4000000 in
set_option maxRecDepth 100000 in
theorem RX4_addRow (l : Launch) (D : va_G) (g : q_A) (S : q_S) (a0 : Nat) (x1 : Int32) (x2 : Int32) (x3 : Int32) (Q : Int32 → q_S → Prop) (h : wX4_addRow a0 x1 x2 x3 Q S) : q_Mi l yX4_addRow wsX4_addRow rmX4_addRow D g [.ref a0, .int x1, .int x2, .int x3] S Q := by
  refine q_Mi.of (cc := cX4_addRow) (nL := 5) (rt := .int) (by decide +kernel) rfl (Nat.le_of_ble_eq_true rfl) rfl ?_
  intro p e s m args below meth c ls A C hr hnm hp hl
  have C : q_X p s m args meth c cX4_addRow 5 RX4 wsX4_addRow D g A := C
  have hx := C.1
  have hb := C.2.1
  have hl : q_l ls 5 [(0, .ref a0), (1, .int x1), (2, .int x2), (3, .int x3)] := hl
  unfold wX4_addRow at h
  have h := h.2
  refine lv_aload_n hx hb dX4_addRow_0 rfl (q_at hl 0 rfl) ?_
  refine q_rGI C hp h rfl iX4_addRow_X4 (by decide) kX4_addRow_22 dX4_addRow_1 (fun v_1 h => ?_)
  refine lv_bipush (v := 40) hx hb dX4_addRow_4 (by decide) ?_
  refine lv_icmp_lt (tgt := 12) hx hb dX4_addRow_6 (by decide) (fun c_2 => ?_) (fun c_2 => ?_)
  · have h := h.1 c_2
    refine lv_aload_n hx hb dX4_addRow_12 rfl (q_at hl 0 rfl) ?_
    refine q_rGI C hp h rfl iX4_addRow_X4 (by decide) kX4_addRow_22 dX4_addRow_13 (fun v_3 h => ?_)
    refine q_ist (lv' := [(4, .int v_3), (0, .ref a0), (1, .int x1), (2, .int x2), (3, .int x3)]) hx hb dX4_addRow_16 hl (by decide) rfl (fun ls hl => ?_)
    refine lv_aload_n hx hb dX4_addRow_18 rfl (q_at hl 1 rfl) ?_
    refine lv_dup hx hb dX4_addRow_19 rfl ?_
    refine q_rGI C hp h rfl iX4_addRow_X4 (by decide) kX4_addRow_22 dX4_addRow_20 (fun v_4 h => ?_)
    refine lv_iconst (v := 1) hx hb dX4_addRow_23 (by decide) ?_
    refine lv_iadd hx hb dX4_addRow_24 ?_
    refine q_rP C hp h tyX4 tyX4_ok nmX4 rfl iX4_addRow_X4 (by decide) kX4_addRow_22 rfl rfl rfl rfl dX4_addRow_25 (fun S_5 H locs h hp => ?_)
    refine lv_aload_n hx hb dX4_addRow_28 rfl (q_at hl 1 rfl) ?_
    refine lv_iload hx hb dX4_addRow_29 (q_at hl 0 rfl) ?_
    refine lv_iconst (v := 0) hx hb dX4_addRow_31 (by decide) ?_
    refine lv_iload_n hx hb dX4_addRow_32 rfl (q_at hl 2 rfl) ?_
    refine q_finV0 C hp (q_runV (As := [.int v_3, .int (0 : Int32), .int x1]) (rest := []) C hp (RX4_setFigure l D g _ a0 v_3 (0 : Int32) x1 _ h _) (cwV 3 C.2.2.2.2.1 gX4_addRow_X4_setFigure rfl rfl rfl (by decide +kernel) ⟨(Nat.le_of_ble_eq_true rfl), (Nat.le_of_ble_eq_true rfl)⟩) h.1 rfl rfl hl.1.1 rfl (Nat.le_of_ble_eq_true rfl) dX4_addRow_33 ⟨(Nat.le_of_ble_eq_true rfl), (Nat.le_of_ble_eq_true rfl)⟩) rfl rfl (fun S_6 H locs h hp => ?_)
    refine lv_aload_n hx hb dX4_addRow_36 rfl (q_at hl 1 rfl) ?_
    refine lv_iload hx hb dX4_addRow_37 (q_at hl 0 rfl) ?_
    refine lv_iconst (v := 1) hx hb dX4_addRow_39 (by decide) ?_
    refine lv_iload_n hx hb dX4_addRow_40 rfl (q_at hl 3 rfl) ?_
    refine q_finV0 C hp (q_runV (As := [.int v_3, .int (1 : Int32), .int x2]) (rest := []) C hp (RX4_setFigure l D g _ a0 v_3 (1 : Int32) x2 _ h _) (cwV 3 C.2.2.2.2.1 gX4_addRow_X4_setFigure rfl rfl rfl (by decide +kernel) ⟨(Nat.le_of_ble_eq_true rfl), (Nat.le_of_ble_eq_true rfl)⟩) h.1 rfl rfl hl.1.1 rfl (Nat.le_of_ble_eq_true rfl) dX4_addRow_41 ⟨(Nat.le_of_ble_eq_true rfl), (Nat.le_of_ble_eq_true rfl)⟩) rfl rfl (fun S_7 H locs h hp => ?_)
    refine lv_aload_n hx hb dX4_addRow_44 rfl (q_at hl 1 rfl) ?_
    refine lv_iload hx hb dX4_addRow_45 (q_at hl 0 rfl) ?_
    refine lv_iconst (v := 2) hx hb dX4_addRow_47 (by decide) ?_
    refine lv_iload_n hx hb dX4_addRow_48 rfl (q_at hl 4 rfl) ?_
    refine q_finV0 C hp (q_runV (As := [.int v_3, .int (2 : Int32), .int x3]) (rest := []) C hp (RX4_setFigure l D g _ a0 v_3 (2 : Int32) x3 _ h _) (cwV 3 C.2.2.2.2.1 gX4_addRow_X4_setFigure rfl rfl rfl (by decide +kernel) ⟨(Nat.le_of_ble_eq_true rfl), (Nat.le_of_ble_eq_true rfl)⟩) h.1 rfl rfl hl.1.1 rfl (Nat.le_of_ble_eq_true rfl) dX4_addRow_49 ⟨(Nat.le_of_ble_eq_true rfl), (Nat.le_of_ble_eq_true rfl)⟩) rfl rfl (fun S_8 H locs h hp => ?_)
    refine lv_aload_n hx hb dX4_addRow_52 rfl (q_at hl 1 rfl) ?_
    refine lv_iload hx hb dX4_addRow_53 (q_at hl 0 rfl) ?_
    refine lv_iconst (v := 5) hx hb dX4_addRow_55 (by decide) ?_
    refine lv_iconst (v := 0) hx hb dX4_addRow_56 (by decide) ?_
    refine q_finV0 C hp (q_runV (As := [.int v_3, .int (5 : Int32), .int (0 : Int32)]) (rest := []) C hp (RX4_setFigure l D g _ a0 v_3 (5 : Int32) (0 : Int32) _ h _) (cwV 3 C.2.2.2.2.1 gX4_addRow_X4_setFigure rfl rfl rfl (by decide +kernel) ⟨(Nat.le_of_ble_eq_true rfl), (Nat.le_of_ble_eq_true rfl)⟩) h.1 rfl rfl hl.1.1 rfl (Nat.le_of_ble_eq_true rfl) dX4_addRow_57 ⟨(Nat.le_of_ble_eq_true rfl), (Nat.le_of_ble_eq_true rfl)⟩) rfl rfl (fun S_9 H locs h hp => ?_)
    refine lv_aload_n hx hb dX4_addRow_60 rfl (q_at hl 1 rfl) ?_
    refine lv_iload hx hb dX4_addRow_61 (q_at hl 0 rfl) ?_
    refine lv_bipush (v := 6) hx hb dX4_addRow_63 (by decide) ?_
    refine lv_bipush (v := (-100)) hx hb dX4_addRow_65 (by decide) ?_
    refine q_finV0 C hp (q_runV (As := [.int v_3, .int (6 : Int32), .int (-100 : Int32)]) (rest := []) C hp (RX4_setFigure l D g _ a0 v_3 (6 : Int32) (-100 : Int32) _ h _) (cwV 3 C.2.2.2.2.1 gX4_addRow_X4_setFigure rfl rfl rfl (by decide +kernel) ⟨(Nat.le_of_ble_eq_true rfl), (Nat.le_of_ble_eq_true rfl)⟩) h.1 rfl rfl hl.1.1 rfl (Nat.le_of_ble_eq_true rfl) dX4_addRow_67 ⟨(Nat.le_of_ble_eq_true rfl), (Nat.le_of_ble_eq_true rfl)⟩) rfl rfl (fun S_10 H locs h hp => ?_)
    refine lv_iload hx hb dX4_addRow_70 (q_at hl 0 rfl) ?_
    exact q_iret C hp hr h dX4_addRow_72
  · have h := h.2 c_2
    refine lv_bipush (v := (-100)) hx hb dX4_addRow_9 (by decide) ?_
    exact q_iret C hp hr h dX4_addRow_11
theorem kX4_figure_9 : Cond.fieldLink RX4 9 (TX4 0).1 (TX4 0).2.1 (TX4 0).2.2.1 ∈ wsX4_figure := by decide +kernel
theorem iX4_figure_X4 : ∀ w ∈ u_ws RX4 TX4 3, w ∈ wsX4_figure := by decide +kernel
set_option maxHeartbeats 4000000 in
set_option maxRecDepth 100000 in
theorem RX4_figure (l : Launch) (D : va_G) (g : q_A) (S : q_S) (a0 : Nat) (x1 : Int32) (x2 : Int32) (Q : Int32 → q_S → Prop) (h : wX4_figure a0 x1 x2 Q S) : q_Mi l yX4_figure wsX4_figure rmX4_figure D g [.ref a0, .int x1, .int x2] S Q := by
  refine q_Mi.of (cc := cX4_figure) (nL := 3) (rt := .int) (by decide +kernel) rfl (Nat.le_of_ble_eq_true rfl) rfl ?_
  intro p e s m args below meth c ls A C hr hnm hp hl
  have C : q_X p s m args meth c cX4_figure 3 RX4 wsX4_figure D g A := C
  have hx := C.1
  have hb := C.2.1
  have hl : q_l ls 3 [(0, .ref a0), (1, .int x1), (2, .int x2)] := hl
  unfold wX4_figure at h
  have h := h.2
  refine lv_aload_n hx hb dX4_figure_0 rfl (q_at hl 0 rfl) ?_
  refine lv_iload_n hx hb dX4_figure_1 rfl (q_at hl 1 rfl) ?_
  refine q_finI0 C hp (q_runV (As := [.int x1]) (rest := []) C hp (RX4_hasRow l D g _ a0 x1 _ h _) (cwV 1 C.2.2.2.2.1 gX4_figure_X4_hasRow rfl rfl rfl (by decide +kernel) ⟨(Nat.le_of_ble_eq_true rfl), (Nat.le_of_ble_eq_true rfl)⟩) h.1 rfl rfl hl.1.1 rfl (Nat.le_of_ble_eq_true rfl) dX4_figure_2 ⟨(Nat.le_of_ble_eq_true rfl), (Nat.le_of_ble_eq_true rfl)⟩) rfl rfl (fun v_2 S_1 H locs h hp => ?_)
  refine lv_if_eq (tgt := 18) hx hb dX4_figure_5 (by decide) (fun c_3 => ?_) (fun c_3 => ?_)
  · have h := h.1 c_3
    refine lv_bipush (v := (-100)) hx hb dX4_figure_18 (by decide) ?_
    exact q_iret C hp hr h dX4_figure_20
  · have h := h.2 c_3
    refine lv_iload_n hx hb dX4_figure_8 rfl (q_at hl 2 rfl) ?_
    refine lv_if_lt (tgt := 18) hx hb dX4_figure_9 (by decide) (fun c_4 => ?_) (fun c_4 => ?_)
    · have h := h.1 c_4
      refine lv_bipush (v := (-100)) hx hb dX4_figure_18 (by decide) ?_
      exact q_iret C hp hr h dX4_figure_20
    · have h := h.2 c_4
      refine lv_iload_n hx hb dX4_figure_12 rfl (q_at hl 2 rfl) ?_
      refine lv_bipush (v := 7) hx hb dX4_figure_13 (by decide) ?_
      refine lv_icmp_lt (tgt := 21) hx hb dX4_figure_15 (by decide) (fun c_5 => ?_) (fun c_5 => ?_)
      · have h := h.1 c_5
        refine lv_aload_n hx hb dX4_figure_21 rfl (q_at hl 0 rfl) ?_
        refine q_rGR C hp h rfl iX4_figure_X4 (by decide) kX4_figure_9 dX4_figure_22 (fun r_6 h => ?_)
        refine lv_iload_n hx hb dX4_figure_25 rfl (q_at hl 1 rfl) ?_
        refine lv_bipush (v := 7) hx hb dX4_figure_26 (by decide) ?_
        refine lv_imul hx hb dX4_figure_28 ?_
        refine lv_iload_n hx hb dX4_figure_29 rfl (q_at hl 2 rfl) ?_
        refine lv_iadd hx hb dX4_figure_30 ?_
        refine q_rLI C hp h dX4_figure_31 (fun v_7 h => ?_)
        exact q_iret C hp hr h dX4_figure_32
      · have h := h.2 c_5
        refine lv_bipush (v := (-100)) hx hb dX4_figure_18 (by decide) ?_
        exact q_iret C hp hr h dX4_figure_20
theorem kX4_isRowAlike_18 : Cond.fieldLink RX4 18 (TX4 1).1 (TX4 1).2.1 (TX4 1).2.2.1 ∈ wsX4_isRowAlike := by decide +kernel
theorem iX4_isRowAlike_X4 : ∀ w ∈ u_ws RX4 TX4 3, w ∈ wsX4_isRowAlike := by decide +kernel
set_option maxHeartbeats 4000000 in
set_option maxRecDepth 100000 in
theorem RX4_isRowAlike (l : Launch) (D : va_G) (g : q_A) (S : q_S) (a0 : Nat) (a1 : Nat) (x2 : Int32) (Q : Int32 → q_S → Prop) (h : wX4_isRowAlike a0 a1 x2 Q S) : q_Mi l yX4_isRowAlike wsX4_isRowAlike rmX4_isRowAlike D g [.ref a0, .ref a1, .int x2] S Q := by
  refine q_Mi.of (cc := cX4_isRowAlike) (nL := 4) (rt := .boolean) (by decide +kernel) rfl (Nat.le_of_ble_eq_true rfl) rfl ?_
  intro p e s m args below meth c ls A C hr hnm hp hl
  have C : q_X p s m args meth c cX4_isRowAlike 4 RX4 wsX4_isRowAlike D g A := C
  have hx := C.1
  have hb := C.2.1
  have hl : q_l ls 4 [(0, .ref a0), (1, .ref a1), (2, .int x2)] := hl
  have j2 : ∀ (n : Nat), ∀ (a0 : Nat) (a1 : Nat) (x2 : Int32) (x3 : Int32) (S : q_S) (H : Heap) (locs : List Loc) (ls : Array Slot), lX4_isRowAlike_b2 Q n a0 a1 x2 x3 S → q_P D g A s.heap S H locs → q_l ls 4 [(0, .ref a0), (1, .ref a1), (2, .int x2), (3, .int x3)] → W p l e rmX4_isRowAlike s m args below meth c H locs 0 0 (MQ below (va_Qi Q (q_B D g A) A) args s rmX4_isRowAlike.cells rmX4_isRowAlike.slots A) (F0 m 2 ls []) := by
    intro n
    induction n with
    | zero => intro a0 a1 x2 x3 S H locs ls h; exact absurd h (fun h => h)
    | succ n ih2 =>
      intro a0 a1 x2 x3 S H locs ls h hp hl
      have h : wX4_isRowAlike_b2 Q (lX4_isRowAlike_b2 Q n) a0 a1 x2 x3 S := h
      unfold wX4_isRowAlike_b2 at h
      refine lv_iload_n hx hb dX4_isRowAlike_2 rfl (q_at hl 3 rfl) ?_
      refine lv_bipush (v := 7) hx hb dX4_isRowAlike_3 (by decide) ?_
      refine lv_icmp_ge (tgt := 31) hx hb dX4_isRowAlike_5 (by decide) (fun c_1 => ?_) (fun c_1 => ?_)
      · have h := h.1 c_1
        refine lv_aload_n hx hb dX4_isRowAlike_31 rfl (q_at hl 0 rfl) ?_
        refine q_rGR C hp h rfl iX4_isRowAlike_X4 (by decide) kX4_isRowAlike_18 dX4_isRowAlike_32 (fun r_2 h => ?_)
        refine lv_aload_n hx hb dX4_isRowAlike_35 rfl (q_at hl 1 rfl) ?_
        refine q_rGR C hp h rfl iX4_isRowAlike_X4 (by decide) kX4_isRowAlike_18 dX4_isRowAlike_36 (fun r_3 h => ?_)
        refine lv_iload_n hx hb dX4_isRowAlike_39 rfl (q_at hl 2 rfl) ?_
        refine q_finI0 C hp (q_runV (As := [.ref r_3, .int x2]) (rest := []) C hp (RX3_isAlike l D g _ r_2 r_3 x2 _ h _) (cwV 2 C.2.2.2.2.1 gX4_isRowAlike_X3_isAlike rfl rfl rfl (by decide +kernel) ⟨(Nat.le_of_ble_eq_true rfl), (Nat.le_of_ble_eq_true rfl)⟩) h.1 rfl rfl hl.1.1 rfl (Nat.le_of_ble_eq_true rfl) dX4_isRowAlike_40 ⟨(Nat.le_of_ble_eq_true rfl), (Nat.le_of_ble_eq_true rfl)⟩) rfl rfl (fun v_5 S_4 H locs h hp => ?_)
        exact q_zret C hp hr h dX4_isRowAlike_43
      · have h := h.2 c_1
        refine lv_aload_n hx hb dX4_isRowAlike_8 rfl (q_at hl 0 rfl) ?_
        refine lv_iload_n hx hb dX4_isRowAlike_9 rfl (q_at hl 2 rfl) ?_
        refine lv_iload_n hx hb dX4_isRowAlike_10 rfl (q_at hl 3 rfl) ?_
        refine q_finI0 C hp (q_runV (As := [.int x2, .int x3]) (rest := []) C hp (RX4_figure l D g _ a0 x2 x3 _ h _) (cwV 2 C.2.2.2.2.1 gX4_isRowAlike_X4_figure rfl rfl rfl (by decide +kernel) ⟨(Nat.le_of_ble_eq_true rfl), (Nat.le_of_ble_eq_true rfl)⟩) h.1 rfl rfl hl.1.1 rfl (Nat.le_of_ble_eq_true rfl) dX4_isRowAlike_11 ⟨(Nat.le_of_ble_eq_true rfl), (Nat.le_of_ble_eq_true rfl)⟩) rfl rfl (fun v_7 S_6 H locs h hp => ?_)
        refine lv_aload_n hx hb dX4_isRowAlike_14 rfl (q_at hl 1 rfl) ?_
        refine lv_iload_n hx hb dX4_isRowAlike_15 rfl (q_at hl 2 rfl) ?_
        refine lv_iload_n hx hb dX4_isRowAlike_16 rfl (q_at hl 3 rfl) ?_
        refine q_finI0 C hp (q_runV (As := [.int x2, .int x3]) (rest := [.int v_7]) C hp (RX4_figure l D g _ a1 x2 x3 _ h _) (cwV 2 C.2.2.2.2.1 gX4_isRowAlike_X4_figure rfl rfl rfl (by decide +kernel) ⟨(Nat.le_of_ble_eq_true rfl), (Nat.le_of_ble_eq_true rfl)⟩) h.1 rfl rfl hl.1.1 rfl (Nat.le_of_ble_eq_true rfl) dX4_isRowAlike_17 ⟨(Nat.le_of_ble_eq_true rfl), (Nat.le_of_ble_eq_true rfl)⟩) rfl rfl (fun v_9 S_8 H locs h hp => ?_)
        refine lv_icmp_eq (tgt := 25) hx hb dX4_isRowAlike_20 (by decide) (fun c_10 => ?_) (fun c_10 => ?_)
        · have h := h.1 c_10
          refine q_inc (x := x3) (v := (x3 + (1 : Int32))) (lv' := [(3, .int (x3 + (1 : Int32))), (0, .ref a0), (1, .ref a1), (2, .int x2)]) hx hb dX4_isRowAlike_25 hl (k := 3) rfl rfl (by decide) rfl (fun ls hl => ?_)
          refine lv_goto (tgt := 2) hx hb dX4_isRowAlike_28 (by decide) ?_
          exact ih2 a0 a1 x2 (x3 + (1 : Int32)) _ _ _ _ h hp (q_sub hl [1, 2, 3, 0] rfl)
        · have h := h.2 c_10
          refine lv_iconst (v := 0) hx hb dX4_isRowAlike_23 (by decide) ?_
          exact q_zret C hp hr h dX4_isRowAlike_24
  unfold wX4_isRowAlike at h
  have h := h.2
  refine lv_iconst (v := 0) hx hb dX4_isRowAlike_0 (by decide) ?_
  refine q_istn (lv' := [(3, .int (0 : Int32)), (0, .ref a0), (1, .ref a1), (2, .int x2)]) hx hb dX4_isRowAlike_1 rfl hl (by decide) rfl (fun ls hl => ?_)
  exact j2 q_fuel a0 a1 x2 (0 : Int32) _ _ _ _ h hp (q_sub hl [1, 2, 3, 0] rfl)
theorem kX4_firstUnlike_22 : Cond.fieldLink RX4 22 (TX4 2).1 (TX4 2).2.1 (TX4 2).2.2.1 ∈ wsX4_firstUnlike := by decide +kernel
theorem iX4_firstUnlike_X4 : ∀ w ∈ u_ws RX4 TX4 3, w ∈ wsX4_firstUnlike := by decide +kernel
theorem kmax4X4_firstUnlike : Cond.code Lib.Math.max.name Lib.Math.max.code 2 (some .int) ∈ wsX4_firstUnlike := by decide +kernel
theorem kmax3X4_firstUnlike : Cond.initialized "java/lang/Math" ∈ wsX4_firstUnlike := by decide +kernel
theorem kmax1X4_firstUnlike : Cond.methodLink RX4 46 Lib.Math.max.name ∈ wsX4_firstUnlike := by decide +kernel
theorem kmax2X4_firstUnlike : Cond.static Lib.Math.max.name ∈ wsX4_firstUnlike := by decide +kernel
set_option maxHeartbeats 4000000 in
set_option maxRecDepth 100000 in
theorem RX4_firstUnlike (l : Launch) (D : va_G) (g : q_A) (S : q_S) (a0 : Nat) (a1 : Nat) (Q : Int32 → q_S → Prop) (h : wX4_firstUnlike a0 a1 Q S) : q_Mi l yX4_firstUnlike wsX4_firstUnlike rmX4_firstUnlike D g [.ref a0, .ref a1] S Q := by
  refine q_Mi.of (cc := cX4_firstUnlike) (nL := 4) (rt := .int) (by decide +kernel) rfl (Nat.le_of_ble_eq_true rfl) rfl ?_
  intro p e s m args below meth c ls A C hr hnm hp hl
  have C : q_X p s m args meth c cX4_firstUnlike 4 RX4 wsX4_firstUnlike D g A := C
  have hx := C.1
  have hb := C.2.1
  have hl : q_l ls 4 [(0, .ref a0), (1, .ref a1)] := hl
  have j14 : ∀ (n : Nat), ∀ (a0 : Nat) (a1 : Nat) (x2 : Int32) (x3 : Int32) (S : q_S) (H : Heap) (locs : List Loc) (ls : Array Slot), lX4_firstUnlike_b14 Q n a0 a1 x2 x3 S → q_P D g A s.heap S H locs → q_l ls 4 [(0, .ref a0), (1, .ref a1), (2, .int x2), (3, .int x3)] → W p l e rmX4_firstUnlike s m args below meth c H locs 0 0 (MQ below (va_Qi Q (q_B D g A) A) args s rmX4_firstUnlike.cells rmX4_firstUnlike.slots A) (F0 m 14 ls []) := by
    intro n
    induction n with
    | zero => intro a0 a1 x2 x3 S H locs ls h; exact absurd h (fun h => h)
    | succ n ih14 =>
      intro a0 a1 x2 x3 S H locs ls h hp hl
      have h : wX4_firstUnlike_b14 Q (lX4_firstUnlike_b14 Q n) a0 a1 x2 x3 S := h
      unfold wX4_firstUnlike_b14 at h
      refine lv_iload_n hx hb dX4_firstUnlike_14 rfl (q_at hl 3 rfl) ?_
      refine lv_iload_n hx hb dX4_firstUnlike_15 rfl (q_at hl 2 rfl) ?_
      refine lv_icmp_ge (tgt := 52) hx hb dX4_firstUnlike_16 (by decide) (fun c_1 => ?_) (fun c_1 => ?_)
      · have h := h.1 c_1
        refine lv_bipush (v := (-100)) hx hb dX4_firstUnlike_52 (by decide) ?_
        exact q_iret C hp hr h dX4_firstUnlike_54
      · have h := h.2 c_1
        refine lv_aload_n hx hb dX4_firstUnlike_19 rfl (q_at hl 0 rfl) ?_
        refine lv_iload_n hx hb dX4_firstUnlike_20 rfl (q_at hl 3 rfl) ?_
        refine q_finI0 C hp (q_runV (As := [.int x3]) (rest := []) C hp (RX4_hasRow l D g _ a0 x3 _ h _) (cwV 1 C.2.2.2.2.1 gX4_firstUnlike_X4_hasRow rfl rfl rfl (by decide +kernel) ⟨(Nat.le_of_ble_eq_true rfl), (Nat.le_of_ble_eq_true rfl)⟩) h.1 rfl rfl hl.1.1 rfl (Nat.le_of_ble_eq_true rfl) dX4_firstUnlike_21 ⟨(Nat.le_of_ble_eq_true rfl), (Nat.le_of_ble_eq_true rfl)⟩) rfl rfl (fun v_3 S_2 H locs h hp => ?_)
        refine lv_if_eq (tgt := 44) hx hb dX4_firstUnlike_24 (by decide) (fun c_4 => ?_) (fun c_4 => ?_)
        · have h := h.1 c_4
          refine lv_iload_n hx hb dX4_firstUnlike_44 rfl (q_at hl 3 rfl) ?_
          exact q_iret C hp hr h dX4_firstUnlike_45
        · have h := h.2 c_4
          refine lv_aload_n hx hb dX4_firstUnlike_27 rfl (q_at hl 1 rfl) ?_
          refine lv_iload_n hx hb dX4_firstUnlike_28 rfl (q_at hl 3 rfl) ?_
          refine q_finI0 C hp (q_runV (As := [.int x3]) (rest := []) C hp (RX4_hasRow l D g _ a1 x3 _ h _) (cwV 1 C.2.2.2.2.1 gX4_firstUnlike_X4_hasRow rfl rfl rfl (by decide +kernel) ⟨(Nat.le_of_ble_eq_true rfl), (Nat.le_of_ble_eq_true rfl)⟩) h.1 rfl rfl hl.1.1 rfl (Nat.le_of_ble_eq_true rfl) dX4_firstUnlike_29 ⟨(Nat.le_of_ble_eq_true rfl), (Nat.le_of_ble_eq_true rfl)⟩) rfl rfl (fun v_6 S_5 H locs h hp => ?_)
          refine lv_if_eq (tgt := 44) hx hb dX4_firstUnlike_32 (by decide) (fun c_7 => ?_) (fun c_7 => ?_)
          · have h := h.1 c_7
            refine lv_iload_n hx hb dX4_firstUnlike_44 rfl (q_at hl 3 rfl) ?_
            exact q_iret C hp hr h dX4_firstUnlike_45
          · have h := h.2 c_7
            refine lv_aload_n hx hb dX4_firstUnlike_35 rfl (q_at hl 0 rfl) ?_
            refine lv_aload_n hx hb dX4_firstUnlike_36 rfl (q_at hl 1 rfl) ?_
            refine lv_iload_n hx hb dX4_firstUnlike_37 rfl (q_at hl 3 rfl) ?_
            refine q_finI0 C hp (q_runV (As := [.ref a1, .int x3]) (rest := []) C hp (RX4_isRowAlike l D g _ a0 a1 x3 _ h _) (cwV 2 C.2.2.2.2.1 gX4_firstUnlike_X4_isRowAlike rfl rfl rfl (by decide +kernel) ⟨(Nat.le_of_ble_eq_true rfl), (Nat.le_of_ble_eq_true rfl)⟩) h.1 rfl rfl hl.1.1 rfl (Nat.le_of_ble_eq_true rfl) dX4_firstUnlike_38 ⟨(Nat.le_of_ble_eq_true rfl), (Nat.le_of_ble_eq_true rfl)⟩) rfl rfl (fun v_9 S_8 H locs h hp => ?_)
            refine lv_if_ne (tgt := 46) hx hb dX4_firstUnlike_41 (by decide) (fun c_10 => ?_) (fun c_10 => ?_)
            · have h := h.1 c_10
              refine q_inc (x := x3) (v := (x3 + (1 : Int32))) (lv' := [(3, .int (x3 + (1 : Int32))), (0, .ref a0), (1, .ref a1), (2, .int x2)]) hx hb dX4_firstUnlike_46 hl (k := 3) rfl rfl (by decide) rfl (fun ls hl => ?_)
              refine lv_goto (tgt := 14) hx hb dX4_firstUnlike_49 (by decide) ?_
              exact ih14 a0 a1 x2 (x3 + (1 : Int32)) _ _ _ _ h hp (q_sub hl [1, 2, 3, 0] rfl)
            · have h := h.2 c_10
              refine lv_iload_n hx hb dX4_firstUnlike_44 rfl (q_at hl 3 rfl) ?_
              exact q_iret C hp hr h dX4_firstUnlike_45
  unfold wX4_firstUnlike at h
  have h := h.2
  refine lv_aload_n hx hb dX4_firstUnlike_0 rfl (q_at hl 0 rfl) ?_
  refine q_rGI C hp h rfl iX4_firstUnlike_X4 (by decide) kX4_firstUnlike_22 dX4_firstUnlike_1 (fun v_11 h => ?_)
  refine lv_aload_n hx hb dX4_firstUnlike_4 rfl (q_at hl 1 rfl) ?_
  refine q_rGI C hp h rfl iX4_firstUnlike_X4 (by decide) kX4_firstUnlike_22 dX4_firstUnlike_5 (fun v_12 h => ?_)
  refine q_max C hl.1.1 kmax1X4_firstUnlike kmax2X4_firstUnlike kmax3X4_firstUnlike kmax4X4_firstUnlike (Nat.le_of_ble_eq_true rfl) (Nat.le_of_ble_eq_true rfl) (Nat.zero_le _) (Nat.zero_le _) dX4_firstUnlike_8 ?_
  refine q_istn (lv' := [(2, .int (if v_11 < v_12 then v_12 else v_11)), (0, .ref a0), (1, .ref a1)]) hx hb dX4_firstUnlike_11 rfl hl (by decide) rfl (fun ls hl => ?_)
  refine lv_iconst (v := 0) hx hb dX4_firstUnlike_12 (by decide) ?_
  refine q_istn (lv' := [(3, .int (0 : Int32)), (2, .int (if v_11 < v_12 then v_12 else v_11)), (0, .ref a0), (1, .ref a1)]) hx hb dX4_firstUnlike_13 rfl hl (by decide) rfl (fun ls hl => ?_)
  exact j14 q_fuel a0 a1 (if v_11 < v_12 then v_12 else v_11) (0 : Int32) _ _ _ _ h hp (q_sub hl [2, 3, 1, 0] rfl)
theorem kX4_isLongRest_9 : Cond.fieldLink RX4 9 (TX4 0).1 (TX4 0).2.1 (TX4 0).2.2.1 ∈ wsX4_isLongRest := by decide +kernel
theorem kX4_isLongRest_22 : Cond.fieldLink RX4 22 (TX4 2).1 (TX4 2).2.1 (TX4 2).2.2.1 ∈ wsX4_isLongRest := by decide +kernel
theorem iX4_isLongRest_X4 : ∀ w ∈ u_ws RX4 TX4 3, w ∈ wsX4_isLongRest := by decide +kernel
set_option maxHeartbeats 4000000 in
set_option maxRecDepth 100000 in
theorem RX4_isLongRest (l : Launch) (D : va_G) (g : q_A) (S : q_S) (a0 : Nat) (x1 : Int32) (Q : Int32 → q_S → Prop) (h : wX4_isLongRest a0 x1 Q S) : q_Mi l yX4_isLongRest wsX4_isLongRest rmX4_isLongRest D g [.ref a0, .int x1] S Q := by
  refine q_Mi.of (cc := cX4_isLongRest) (nL := 2) (rt := .boolean) (by decide +kernel) rfl (Nat.le_of_ble_eq_true rfl) rfl ?_
  intro p e s m args below meth c ls A C hr hnm hp hl
  have C : q_X p s m args meth c cX4_isLongRest 2 RX4 wsX4_isLongRest D g A := C
  have hx := C.1
  have hb := C.2.1
  have hl : q_l ls 2 [(0, .ref a0), (1, .int x1)] := hl
  unfold wX4_isLongRest at h
  have h := h.2
  refine lv_iload_n hx hb dX4_isLongRest_0 rfl (q_at hl 1 rfl) ?_
  refine lv_if_lt (tgt := 46) hx hb dX4_isLongRest_1 (by decide) (fun c_1 => ?_) (fun c_1 => ?_)
  · have h := h.1 c_1
    refine lv_iconst (v := 0) hx hb dX4_isLongRest_46 (by decide) ?_
    exact q_zret C hp hr h dX4_isLongRest_47
  · have h := h.2 c_1
    refine lv_iload_n hx hb dX4_isLongRest_4 rfl (q_at hl 1 rfl) ?_
    refine lv_aload_n hx hb dX4_isLongRest_5 rfl (q_at hl 0 rfl) ?_
    refine q_rGI C hp h rfl iX4_isLongRest_X4 (by decide) kX4_isLongRest_22 dX4_isLongRest_6 (fun v_2 h => ?_)
    refine lv_icmp_ge (tgt := 46) hx hb dX4_isLongRest_9 (by decide) (fun c_3 => ?_) (fun c_3 => ?_)
    · have h := h.1 c_3
      refine lv_iconst (v := 0) hx hb dX4_isLongRest_46 (by decide) ?_
      exact q_zret C hp hr h dX4_isLongRest_47
    · have h := h.2 c_3
      refine lv_aload_n hx hb dX4_isLongRest_12 rfl (q_at hl 0 rfl) ?_
      refine q_rGR C hp h rfl iX4_isLongRest_X4 (by decide) kX4_isLongRest_9 dX4_isLongRest_13 (fun r_4 h => ?_)
      refine lv_iload_n hx hb dX4_isLongRest_16 rfl (q_at hl 1 rfl) ?_
      refine lv_bipush (v := 7) hx hb dX4_isLongRest_17 (by decide) ?_
      refine lv_imul hx hb dX4_isLongRest_19 ?_
      refine lv_iconst (v := 0) hx hb dX4_isLongRest_20 (by decide) ?_
      refine lv_iadd hx hb dX4_isLongRest_21 ?_
      refine q_rLI C hp h dX4_isLongRest_22 (fun v_5 h => ?_)
      refine lv_iconst (v := 1) hx hb dX4_isLongRest_23 (by decide) ?_
      refine lv_icmp_ne (tgt := 46) hx hb dX4_isLongRest_24 (by decide) (fun c_6 => ?_) (fun c_6 => ?_)
      · have h := h.1 c_6
        refine lv_iconst (v := 0) hx hb dX4_isLongRest_46 (by decide) ?_
        exact q_zret C hp hr h dX4_isLongRest_47
      · have h := h.2 c_6
        refine lv_aload_n hx hb dX4_isLongRest_27 rfl (q_at hl 0 rfl) ?_
        refine q_rGR C hp h rfl iX4_isLongRest_X4 (by decide) kX4_isLongRest_9 dX4_isLongRest_28 (fun r_7 h => ?_)
        refine lv_iload_n hx hb dX4_isLongRest_31 rfl (q_at hl 1 rfl) ?_
        refine lv_bipush (v := 7) hx hb dX4_isLongRest_32 (by decide) ?_
        refine lv_imul hx hb dX4_isLongRest_34 ?_
        refine lv_iconst (v := 2) hx hb dX4_isLongRest_35 (by decide) ?_
        refine lv_iadd hx hb dX4_isLongRest_36 ?_
        refine q_rLI C hp h dX4_isLongRest_37 (fun v_8 h => ?_)
        refine lv_iconst (v := 2) hx hb dX4_isLongRest_38 (by decide) ?_
        refine lv_icmp_lt (tgt := 46) hx hb dX4_isLongRest_39 (by decide) (fun c_9 => ?_) (fun c_9 => ?_)
        · have h := h.1 c_9
          refine lv_iconst (v := 0) hx hb dX4_isLongRest_46 (by decide) ?_
          exact q_zret C hp hr h dX4_isLongRest_47
        · have h := h.2 c_9
          refine lv_iconst (v := 1) hx hb dX4_isLongRest_42 (by decide) ?_
          refine lv_goto (tgt := 47) hx hb dX4_isLongRest_43 (by decide) ?_
          exact q_zret C hp hr h dX4_isLongRest_47
