theorem dX1_init_0 : decode cX1_init 0 = .ok (.aload_n 0, 1) := by decide +kernel
theorem dX1_init_1 : decode cX1_init 1 = .ok (.invokespecial 3, 3) := by decide +kernel
theorem dX1_init_4 : decode cX1_init 4 = .ok (.aload_n 0, 1) := by decide +kernel
theorem dX1_init_5 : decode cX1_init 5 = .ok (.bipush 41, 2) := by decide +kernel
theorem dX1_init_7 : decode cX1_init 7 = .ok (.newarray .int, 2) := by decide +kernel
theorem dX1_init_9 : decode cX1_init 9 = .ok (.putfield 9, 3) := by decide +kernel
theorem dX1_init_12 : decode cX1_init 12 = .ok (.aload_n 0, 1) := by decide +kernel
theorem dX1_init_13 : decode cX1_init 13 = .ok (.sipush 160, 3) := by decide +kernel
theorem dX1_init_16 : decode cX1_init 16 = .ok (.newarray .int, 2) := by decide +kernel
theorem dX1_init_18 : decode cX1_init 18 = .ok (.putfield 15, 3) := by decide +kernel
theorem dX1_init_21 : decode cX1_init 21 = .ok (.return_, 1) := by decide +kernel
set_option maxRecDepth 20000 in
theorem ggX1_arrange_X1_fillSystems : GoodIn wsX1_arrange wsX1_fillSystems := goodIn_r _ [7, 2, 8, 9, 10, 11, 12, 13, 14, 15, 16, 17, 18, 19, 20, 21, 22, 23, 24, 25, 26, 6, 27, 49, 50, 51, 52, 53, 54, 55] (by decide +kernel) (by decide +kernel)
set_option maxRecDepth 20000 in
theorem gX1_arrange_X1_fillSystems : GoodIn wsX1_arrange (wsV RX1 18 RX1 yX1_fillSystems wsX1_fillSystems) := goodIn_app (goodIn_of _ (by decide +kernel)) ggX1_arrange_X1_fillSystems
set_option maxRecDepth 20000 in
theorem ggX1_arrange_X1_addPage : GoodIn wsX1_arrange wsX1_addPage := goodIn_r _ [31, 2, 32, 33, 34, 6, 35, 1, 36, 37, 38, 39, 40, 8, 41, 42, 43, 44, 45, 46, 47, 16, 48, 23, 18, 49, 50, 51, 52, 53, 54, 55] (by decide +kernel) (by decide +kernel)
set_option maxRecDepth 20000 in
theorem gX1_arrange_X1_addPage : GoodIn wsX1_arrange (wsV RX1 29 RX1 yX1_addPage wsX1_addPage) := goodIn_app (goodIn_of _ (by decide +kernel)) ggX1_arrange_X1_addPage
theorem dX1_arrange_0 : decode cX1_arrange 0 = .ok (.aload_n 0, 1) := by decide +kernel
theorem dX1_arrange_1 : decode cX1_arrange 1 = .ok (.aload_n 1, 1) := by decide +kernel
theorem dX1_arrange_2 : decode cX1_arrange 2 = .ok (.iload_n 2, 1) := by decide +kernel
theorem dX1_arrange_3 : decode cX1_arrange 3 = .ok (.invokevirtual 18, 3) := by decide +kernel
theorem dX1_arrange_6 : decode cX1_arrange 6 = .ok (.aload_n 0, 1) := by decide +kernel
theorem dX1_arrange_7 : decode cX1_arrange 7 = .ok (.iconst 0, 1) := by decide +kernel
theorem dX1_arrange_8 : decode cX1_arrange 8 = .ok (.putfield 22, 3) := by decide +kernel
theorem dX1_arrange_11 : decode cX1_arrange 11 = .ok (.iconst 0, 1) := by decide +kernel
theorem dX1_arrange_12 : decode cX1_arrange 12 = .ok (.istore 4, 2) := by decide +kernel
theorem dX1_arrange_14 : decode cX1_arrange 14 = .ok (.iconst 0, 1) := by decide +kernel
theorem dX1_arrange_15 : decode cX1_arrange 15 = .ok (.istore 5, 2) := by decide +kernel
theorem dX1_arrange_17 : decode cX1_arrange 17 = .ok (.iload 5, 2) := by decide +kernel
theorem dX1_arrange_19 : decode cX1_arrange 19 = .ok (.aload_n 0, 1) := by decide +kernel
theorem dX1_arrange_20 : decode cX1_arrange 20 = .ok (.getfield 26, 3) := by decide +kernel
theorem dX1_arrange_23 : decode cX1_arrange 23 = .ok (.if_icmp .ge 29, 3) := by decide +kernel
theorem dX1_arrange_26 : decode cX1_arrange 26 = .ok (.iload 5, 2) := by decide +kernel
theorem dX1_arrange_28 : decode cX1_arrange 28 = .ok (.iload 4, 2) := by decide +kernel
theorem dX1_arrange_30 : decode cX1_arrange 30 = .ok (.if_icmp .lt 16, 3) := by decide +kernel
theorem dX1_arrange_33 : decode cX1_arrange 33 = .ok (.iload 5, 2) := by decide +kernel
theorem dX1_arrange_35 : decode cX1_arrange 35 = .ok (.aload_n 0, 1) := by decide +kernel
theorem dX1_arrange_36 : decode cX1_arrange 36 = .ok (.aload_n 1, 1) := by decide +kernel
theorem dX1_arrange_37 : decode cX1_arrange 37 = .ok (.iload 5, 2) := by decide +kernel
theorem dX1_arrange_39 : decode cX1_arrange 39 = .ok (.iload_n 3, 1) := by decide +kernel
theorem dX1_arrange_40 : decode cX1_arrange 40 = .ok (.invokevirtual 29, 3) := by decide +kernel
theorem dX1_arrange_43 : decode cX1_arrange 43 = .ok (.iadd, 1) := by decide +kernel
theorem dX1_arrange_44 : decode cX1_arrange 44 = .ok (.istore 4, 2) := by decide +kernel
theorem dX1_arrange_46 : decode cX1_arrange 46 = .ok (.iinc 5 1, 3) := by decide +kernel
theorem dX1_arrange_49 : decode cX1_arrange 49 = .ok (.goto (-32), 3) := by decide +kernel
theorem dX1_arrange_52 : decode cX1_arrange 52 = .ok (.return_, 1) := by decide +kernel
theorem dX1_figure_0 : decode cX1_figure 0 = .ok (.iload_n 1, 1) := by decide +kernel
theorem dX1_figure_1 : decode cX1_figure 1 = .ok (.ifCond .lt 20, 3) := by decide +kernel
theorem dX1_figure_4 : decode cX1_figure 4 = .ok (.iload_n 1, 1) := by decide +kernel
theorem dX1_figure_5 : decode cX1_figure 5 = .ok (.aload_n 0, 1) := by decide +kernel
theorem dX1_figure_6 : decode cX1_figure 6 = .ok (.getfield 22, 3) := by decide +kernel
theorem dX1_figure_9 : decode cX1_figure 9 = .ok (.if_icmp .ge 12, 3) := by decide +kernel
theorem dX1_figure_12 : decode cX1_figure 12 = .ok (.iload_n 2, 1) := by decide +kernel
theorem dX1_figure_13 : decode cX1_figure 13 = .ok (.ifCond .lt 8, 3) := by decide +kernel
theorem dX1_figure_16 : decode cX1_figure 16 = .ok (.iload_n 2, 1) := by decide +kernel
theorem dX1_figure_17 : decode cX1_figure 17 = .ok (.iconst 4, 1) := by decide +kernel
theorem dX1_figure_18 : decode cX1_figure 18 = .ok (.if_icmp .lt 6, 3) := by decide +kernel
theorem dX1_figure_21 : decode cX1_figure 21 = .ok (.bipush (-100), 2) := by decide +kernel
theorem dX1_figure_23 : decode cX1_figure 23 = .ok (.ireturn, 1) := by decide +kernel
theorem dX1_figure_24 : decode cX1_figure 24 = .ok (.aload_n 0, 1) := by decide +kernel
theorem dX1_figure_25 : decode cX1_figure 25 = .ok (.getfield 15, 3) := by decide +kernel
theorem dX1_figure_28 : decode cX1_figure 28 = .ok (.iload_n 1, 1) := by decide +kernel
theorem dX1_figure_29 : decode cX1_figure 29 = .ok (.iconst 4, 1) := by decide +kernel
theorem dX1_figure_30 : decode cX1_figure 30 = .ok (.imul, 1) := by decide +kernel
theorem dX1_figure_31 : decode cX1_figure 31 = .ok (.iload_n 2, 1) := by decide +kernel
theorem dX1_figure_32 : decode cX1_figure 32 = .ok (.iadd, 1) := by decide +kernel
theorem dX1_figure_33 : decode cX1_figure 33 = .ok (.iaload, 1) := by decide +kernel
theorem dX1_figure_34 : decode cX1_figure 34 = .ok (.ireturn, 1) := by decide +kernel
set_option maxRecDepth 20000 in
theorem ggX1_fillSystems_X4_figure : GoodIn wsX1_fillSystems wsX4_figure := goodIn_r _ [11, 12, 13, 14, 15, 10, 16, 17, 27, 28, 29] (by decide +kernel) (by decide +kernel)
set_option maxRecDepth 20000 in
theorem gX1_fillSystems_X4_figure : GoodIn wsX1_fillSystems (wsV RX1 38 RX4 yX4_figure wsX4_figure) := goodIn_app (goodIn_of _ (by decide +kernel)) ggX1_fillSystems_X4_figure
set_option maxRecDepth 20000 in
theorem ggX1_fillSystems_X1_beginSystem : GoodIn wsX1_fillSystems wsX1_beginSystem := goodIn_r _ [22, 1, 2, 23, 24, 25, 26] (by decide +kernel) (by decide +kernel)
set_option maxRecDepth 20000 in
theorem gX1_fillSystems_X1_beginSystem : GoodIn wsX1_fillSystems (wsV RX1 42 RX1 yX1_beginSystem wsX1_beginSystem) := goodIn_app (goodIn_of _ (by decide +kernel)) ggX1_fillSystems_X1_beginSystem
theorem dX1_fillSystems_0 : decode cX1_fillSystems 0 = .ok (.aload_n 0, 1) := by decide +kernel
theorem dX1_fillSystems_1 : decode cX1_fillSystems 1 = .ok (.iconst 0, 1) := by decide +kernel
theorem dX1_fillSystems_2 : decode cX1_fillSystems 2 = .ok (.putfield 26, 3) := by decide +kernel
theorem dX1_fillSystems_5 : decode cX1_fillSystems 5 = .ok (.iconst 0, 1) := by decide +kernel
theorem dX1_fillSystems_6 : decode cX1_fillSystems 6 = .ok (.istore_n 3, 1) := by decide +kernel
theorem dX1_fillSystems_7 : decode cX1_fillSystems 7 = .ok (.iconst 0, 1) := by decide +kernel
theorem dX1_fillSystems_8 : decode cX1_fillSystems 8 = .ok (.istore 4, 2) := by decide +kernel
theorem dX1_fillSystems_10 : decode cX1_fillSystems 10 = .ok (.iload 4, 2) := by decide +kernel
theorem dX1_fillSystems_12 : decode cX1_fillSystems 12 = .ok (.aload_n 1, 1) := by decide +kernel
theorem dX1_fillSystems_13 : decode cX1_fillSystems 13 = .ok (.getfield 33, 3) := by decide +kernel
theorem dX1_fillSystems_16 : decode cX1_fillSystems 16 = .ok (.if_icmp .ge 51, 3) := by decide +kernel
theorem dX1_fillSystems_19 : decode cX1_fillSystems 19 = .ok (.iload 4, 2) := by decide +kernel
theorem dX1_fillSystems_21 : decode cX1_fillSystems 21 = .ok (.bipush 40, 2) := by decide +kernel
theorem dX1_fillSystems_23 : decode cX1_fillSystems 23 = .ok (.if_icmp .ge 44, 3) := by decide +kernel
theorem dX1_fillSystems_26 : decode cX1_fillSystems 26 = .ok (.aload_n 1, 1) := by decide +kernel
theorem dX1_fillSystems_27 : decode cX1_fillSystems 27 = .ok (.iload 4, 2) := by decide +kernel
theorem dX1_fillSystems_29 : decode cX1_fillSystems 29 = .ok (.iconst 3, 1) := by decide +kernel
theorem dX1_fillSystems_30 : decode cX1_fillSystems 30 = .ok (.invokevirtual 38, 3) := by decide +kernel
theorem dX1_fillSystems_33 : decode cX1_fillSystems 33 = .ok (.istore 5, 2) := by decide +kernel
theorem dX1_fillSystems_35 : decode cX1_fillSystems 35 = .ok (.iload 4, 2) := by decide +kernel
theorem dX1_fillSystems_37 : decode cX1_fillSystems 37 = .ok (.ifCond .eq 11, 3) := by decide +kernel
theorem dX1_fillSystems_40 : decode cX1_fillSystems 40 = .ok (.iload_n 3, 1) := by decide +kernel
theorem dX1_fillSystems_41 : decode cX1_fillSystems 41 = .ok (.iload 5, 2) := by decide +kernel
theorem dX1_fillSystems_43 : decode cX1_fillSystems 43 = .ok (.iadd, 1) := by decide +kernel
theorem dX1_fillSystems_44 : decode cX1_fillSystems 44 = .ok (.iload_n 2, 1) := by decide +kernel
theorem dX1_fillSystems_45 : decode cX1_fillSystems 45 = .ok (.if_icmp .le 11, 3) := by decide +kernel
theorem dX1_fillSystems_48 : decode cX1_fillSystems 48 = .ok (.aload_n 0, 1) := by decide +kernel
theorem dX1_fillSystems_49 : decode cX1_fillSystems 49 = .ok (.iload 4, 2) := by decide +kernel
theorem dX1_fillSystems_51 : decode cX1_fillSystems 51 = .ok (.invokevirtual 42, 3) := by decide +kernel
theorem dX1_fillSystems_54 : decode cX1_fillSystems 54 = .ok (.iconst 0, 1) := by decide +kernel
theorem dX1_fillSystems_55 : decode cX1_fillSystems 55 = .ok (.istore_n 3, 1) := by decide +kernel
theorem dX1_fillSystems_56 : decode cX1_fillSystems 56 = .ok (.iload_n 3, 1) := by decide +kernel
theorem dX1_fillSystems_57 : decode cX1_fillSystems 57 = .ok (.iload 5, 2) := by decide +kernel
theorem dX1_fillSystems_59 : decode cX1_fillSystems 59 = .ok (.iadd, 1) := by decide +kernel
theorem dX1_fillSystems_60 : decode cX1_fillSystems 60 = .ok (.istore_n 3, 1) := by decide +kernel
theorem dX1_fillSystems_61 : decode cX1_fillSystems 61 = .ok (.iinc 4 1, 3) := by decide +kernel
theorem dX1_fillSystems_64 : decode cX1_fillSystems 64 = .ok (.goto (-54), 3) := by decide +kernel
theorem dX1_fillSystems_67 : decode cX1_fillSystems 67 = .ok (.aload_n 0, 1) := by decide +kernel
theorem dX1_fillSystems_68 : decode cX1_fillSystems 68 = .ok (.getfield 9, 3) := by decide +kernel
theorem dX1_fillSystems_71 : decode cX1_fillSystems 71 = .ok (.aload_n 0, 1) := by decide +kernel
theorem dX1_fillSystems_72 : decode cX1_fillSystems 72 = .ok (.getfield 26, 3) := by decide +kernel
theorem dX1_fillSystems_75 : decode cX1_fillSystems 75 = .ok (.bipush 40, 2) := by decide +kernel
theorem dX1_fillSystems_77 : decode cX1_fillSystems 77 = .ok (.invokestatic 46, 3) := by decide +kernel
theorem dX1_fillSystems_80 : decode cX1_fillSystems 80 = .ok (.aload_n 1, 1) := by decide +kernel
theorem dX1_fillSystems_81 : decode cX1_fillSystems 81 = .ok (.getfield 33, 3) := by decide +kernel
theorem dX1_fillSystems_84 : decode cX1_fillSystems 84 = .ok (.iastore, 1) := by decide +kernel
theorem dX1_fillSystems_85 : decode cX1_fillSystems 85 = .ok (.return_, 1) := by decide +kernel
theorem dX1_beginSystem_0 : decode cX1_beginSystem 0 = .ok (.aload_n 0, 1) := by decide +kernel
theorem dX1_beginSystem_1 : decode cX1_beginSystem 1 = .ok (.getfield 26, 3) := by decide +kernel
theorem dX1_beginSystem_4 : decode cX1_beginSystem 4 = .ok (.bipush 40, 2) := by decide +kernel
theorem dX1_beginSystem_6 : decode cX1_beginSystem 6 = .ok (.if_icmp .ge 23, 3) := by decide +kernel
theorem dX1_beginSystem_9 : decode cX1_beginSystem 9 = .ok (.aload_n 0, 1) := by decide +kernel
theorem dX1_beginSystem_10 : decode cX1_beginSystem 10 = .ok (.getfield 9, 3) := by decide +kernel
theorem dX1_beginSystem_13 : decode cX1_beginSystem 13 = .ok (.aload_n 0, 1) := by decide +kernel
theorem dX1_beginSystem_14 : decode cX1_beginSystem 14 = .ok (.getfield 26, 3) := by decide +kernel
theorem dX1_beginSystem_17 : decode cX1_beginSystem 17 = .ok (.iload_n 1, 1) := by decide +kernel
theorem dX1_beginSystem_18 : decode cX1_beginSystem 18 = .ok (.iastore, 1) := by decide +kernel
theorem dX1_beginSystem_19 : decode cX1_beginSystem 19 = .ok (.aload_n 0, 1) := by decide +kernel
theorem dX1_beginSystem_20 : decode cX1_beginSystem 20 = .ok (.dup, 1) := by decide +kernel
theorem dX1_beginSystem_21 : decode cX1_beginSystem 21 = .ok (.getfield 26, 3) := by decide +kernel
theorem dX1_beginSystem_24 : decode cX1_beginSystem 24 = .ok (.iconst 1, 1) := by decide +kernel
theorem dX1_beginSystem_25 : decode cX1_beginSystem 25 = .ok (.iadd, 1) := by decide +kernel
theorem dX1_beginSystem_26 : decode cX1_beginSystem 26 = .ok (.putfield 26, 3) := by decide +kernel
theorem dX1_beginSystem_29 : decode cX1_beginSystem 29 = .ok (.return_, 1) := by decide +kernel
set_option maxRecDepth 20000 in
theorem ggX1_addPage_X1_putPage : GoodIn wsX1_addPage wsX1_putPage := goodIn_r _ [6, 7, 8, 9, 10, 11, 5, 12, 1, 13, 25, 26, 27, 28] (by decide +kernel) (by decide +kernel)
set_option maxRecDepth 20000 in
theorem gX1_addPage_X1_putPage : GoodIn wsX1_addPage (wsV RX1 51 RX1 yX1_putPage wsX1_putPage) := goodIn_app (goodIn_of _ (by decide +kernel)) ggX1_addPage_X1_putPage
set_option maxRecDepth 20000 in
theorem ggX1_addPage_X1_turnsWell : GoodIn wsX1_addPage wsX1_turnsWell := goodIn_r _ [17, 9, 10, 11, 5, 12, 1, 13, 18, 19, 20, 21, 22, 23, 24, 25, 26, 27, 28, 29, 30, 31] (by decide +kernel) (by decide +kernel)
set_option maxRecDepth 20000 in
theorem gX1_addPage_X1_turnsWell : GoodIn wsX1_addPage (wsV RX1 55 RX1 yX1_turnsWell wsX1_turnsWell) := goodIn_app (goodIn_of _ (by decide +kernel)) ggX1_addPage_X1_turnsWell
theorem dX1_addPage_0 : decode cX1_addPage 0 = .ok (.aload_n 0, 1) := by decide +kernel
theorem dX1_addPage_1 : decode cX1_addPage 1 = .ok (.getfield 26, 3) := by decide +kernel
theorem dX1_addPage_4 : decode cX1_addPage 4 = .ok (.iload_n 2, 1) := by decide +kernel
theorem dX1_addPage_5 : decode cX1_addPage 5 = .ok (.isub, 1) := by decide +kernel
theorem dX1_addPage_6 : decode cX1_addPage 6 = .ok (.istore 4, 2) := by decide +kernel
theorem dX1_addPage_8 : decode cX1_addPage 8 = .ok (.iload 4, 2) := by decide +kernel
theorem dX1_addPage_10 : decode cX1_addPage 10 = .ok (.iload_n 3, 1) := by decide +kernel
theorem dX1_addPage_11 : decode cX1_addPage 11 = .ok (.if_icmp .gt 14, 3) := by decide +kernel
theorem dX1_addPage_14 : decode cX1_addPage 14 = .ok (.aload_n 0, 1) := by decide +kernel
theorem dX1_addPage_15 : decode cX1_addPage 15 = .ok (.iload_n 2, 1) := by decide +kernel
theorem dX1_addPage_16 : decode cX1_addPage 16 = .ok (.iload 4, 2) := by decide +kernel
theorem dX1_addPage_18 : decode cX1_addPage 18 = .ok (.iconst 1, 1) := by decide +kernel
theorem dX1_addPage_19 : decode cX1_addPage 19 = .ok (.invokevirtual 51, 3) := by decide +kernel
theorem dX1_addPage_22 : decode cX1_addPage 22 = .ok (.iload 4, 2) := by decide +kernel
theorem dX1_addPage_24 : decode cX1_addPage 24 = .ok (.ireturn, 1) := by decide +kernel
theorem dX1_addPage_25 : decode cX1_addPage 25 = .ok (.iload_n 3, 1) := by decide +kernel
theorem dX1_addPage_26 : decode cX1_addPage 26 = .ok (.istore 5, 2) := by decide +kernel
theorem dX1_addPage_28 : decode cX1_addPage 28 = .ok (.iload 5, 2) := by decide +kernel
theorem dX1_addPage_30 : decode cX1_addPage 30 = .ok (.iconst 1, 1) := by decide +kernel
theorem dX1_addPage_31 : decode cX1_addPage 31 = .ok (.if_icmp .lt 40, 3) := by decide +kernel
theorem dX1_addPage_34 : decode cX1_addPage 34 = .ok (.iload 5, 2) := by decide +kernel
theorem dX1_addPage_36 : decode cX1_addPage 36 = .ok (.iload_n 3, 1) := by decide +kernel
theorem dX1_addPage_37 : decode cX1_addPage 37 = .ok (.iconst 2, 1) := by decide +kernel
theorem dX1_addPage_38 : decode cX1_addPage 38 = .ok (.isub, 1) := by decide +kernel
theorem dX1_addPage_39 : decode cX1_addPage 39 = .ok (.if_icmp .lt 32, 3) := by decide +kernel
theorem dX1_addPage_42 : decode cX1_addPage 42 = .ok (.aload_n 0, 1) := by decide +kernel
theorem dX1_addPage_43 : decode cX1_addPage 43 = .ok (.aload_n 1, 1) := by decide +kernel
theorem dX1_addPage_44 : decode cX1_addPage 44 = .ok (.iload_n 2, 1) := by decide +kernel
theorem dX1_addPage_45 : decode cX1_addPage 45 = .ok (.iload 5, 2) := by decide +kernel
theorem dX1_addPage_47 : decode cX1_addPage 47 = .ok (.iadd, 1) := by decide +kernel
theorem dX1_addPage_48 : decode cX1_addPage 48 = .ok (.invokevirtual 55, 3) := by decide +kernel
theorem dX1_addPage_51 : decode cX1_addPage 51 = .ok (.ifCond .eq 14, 3) := by decide +kernel
theorem dX1_addPage_54 : decode cX1_addPage 54 = .ok (.aload_n 0, 1) := by decide +kernel
theorem dX1_addPage_55 : decode cX1_addPage 55 = .ok (.iload_n 2, 1) := by decide +kernel
theorem dX1_addPage_56 : decode cX1_addPage 56 = .ok (.iload 5, 2) := by decide +kernel
theorem dX1_addPage_58 : decode cX1_addPage 58 = .ok (.iconst 1, 1) := by decide +kernel
theorem dX1_addPage_59 : decode cX1_addPage 59 = .ok (.invokevirtual 51, 3) := by decide +kernel
theorem dX1_addPage_62 : decode cX1_addPage 62 = .ok (.iload 5, 2) := by decide +kernel
theorem dX1_addPage_64 : decode cX1_addPage 64 = .ok (.ireturn, 1) := by decide +kernel
theorem dX1_addPage_65 : decode cX1_addPage 65 = .ok (.iinc 5 (-1), 3) := by decide +kernel
theorem dX1_addPage_68 : decode cX1_addPage 68 = .ok (.goto (-40), 3) := by decide +kernel
theorem dX1_addPage_71 : decode cX1_addPage 71 = .ok (.aload_n 0, 1) := by decide +kernel
theorem dX1_addPage_72 : decode cX1_addPage 72 = .ok (.iload_n 2, 1) := by decide +kernel
theorem dX1_addPage_73 : decode cX1_addPage 73 = .ok (.iload_n 3, 1) := by decide +kernel
theorem dX1_addPage_74 : decode cX1_addPage 74 = .ok (.iconst 0, 1) := by decide +kernel
theorem dX1_addPage_75 : decode cX1_addPage 75 = .ok (.invokevirtual 51, 3) := by decide +kernel
theorem dX1_addPage_78 : decode cX1_addPage 78 = .ok (.iload_n 3, 1) := by decide +kernel
theorem dX1_addPage_79 : decode cX1_addPage 79 = .ok (.ireturn, 1) := by decide +kernel
set_option maxRecDepth 20000 in
theorem ggX1_turnsWell_X1_rowAt : GoodIn wsX1_turnsWell wsX1_rowAt := goodIn_r _ [5, 6, 7, 15, 16, 17, 18] (by decide +kernel) (by decide +kernel)
set_option maxRecDepth 20000 in
theorem gX1_turnsWell_X1_rowAt : GoodIn wsX1_turnsWell (wsV RX1 59 RX1 yX1_rowAt wsX1_rowAt) := goodIn_app (goodIn_of _ (by decide +kernel)) ggX1_turnsWell_X1_rowAt
set_option maxRecDepth 20000 in
theorem ggX1_turnsWell_X4_isLongRest : GoodIn wsX1_turnsWell wsX4_isLongRest := goodIn_r _ [12, 13, 14, 19, 20, 21] (by decide +kernel) (by decide +kernel)
set_option maxRecDepth 20000 in
theorem gX1_turnsWell_X4_isLongRest : GoodIn wsX1_turnsWell (wsV RX1 63 RX4 yX4_isLongRest wsX4_isLongRest) := goodIn_app (goodIn_of _ (by decide +kernel)) ggX1_turnsWell_X4_isLongRest
theorem dX1_turnsWell_0 : decode cX1_turnsWell 0 = .ok (.aload_n 0, 1) := by decide +kernel
theorem dX1_turnsWell_1 : decode cX1_turnsWell 1 = .ok (.iload_n 2, 1) := by decide +kernel
theorem dX1_turnsWell_2 : decode cX1_turnsWell 2 = .ok (.invokevirtual 59, 3) := by decide +kernel
theorem dX1_turnsWell_5 : decode cX1_turnsWell 5 = .ok (.istore_n 3, 1) := by decide +kernel
theorem dX1_turnsWell_6 : decode cX1_turnsWell 6 = .ok (.aload_n 1, 1) := by decide +kernel
theorem dX1_turnsWell_7 : decode cX1_turnsWell 7 = .ok (.iload_n 3, 1) := by decide +kernel
theorem dX1_turnsWell_8 : decode cX1_turnsWell 8 = .ok (.iconst 1, 1) := by decide +kernel
theorem dX1_turnsWell_9 : decode cX1_turnsWell 9 = .ok (.isub, 1) := by decide +kernel
theorem dX1_turnsWell_10 : decode cX1_turnsWell 10 = .ok (.invokevirtual 63, 3) := by decide +kernel
theorem dX1_turnsWell_13 : decode cX1_turnsWell 13 = .ok (.ifCond .ne 11, 3) := by decide +kernel
theorem dX1_turnsWell_16 : decode cX1_turnsWell 16 = .ok (.aload_n 1, 1) := by decide +kernel
theorem dX1_turnsWell_17 : decode cX1_turnsWell 17 = .ok (.iload_n 3, 1) := by decide +kernel
theorem dX1_turnsWell_18 : decode cX1_turnsWell 18 = .ok (.invokevirtual 63, 3) := by decide +kernel
theorem dX1_turnsWell_21 : decode cX1_turnsWell 21 = .ok (.ifCond .eq 7, 3) := by decide +kernel
theorem dX1_turnsWell_24 : decode cX1_turnsWell 24 = .ok (.iconst 1, 1) := by decide +kernel
theorem dX1_turnsWell_25 : decode cX1_turnsWell 25 = .ok (.goto 4, 3) := by decide +kernel
theorem dX1_turnsWell_28 : decode cX1_turnsWell 28 = .ok (.iconst 0, 1) := by decide +kernel
theorem dX1_turnsWell_29 : decode cX1_turnsWell 29 = .ok (.ireturn, 1) := by decide +kernel
set_option maxRecDepth 20000 in
theorem ggX1_putPage_X1_rowAt : GoodIn wsX1_putPage wsX1_rowAt := goodIn_r _ [7, 8, 9, 10, 11, 12, 13] (by decide +kernel) (by decide +kernel)
set_option maxRecDepth 20000 in
theorem gX1_putPage_X1_rowAt : GoodIn wsX1_putPage (wsV RX1 59 RX1 yX1_rowAt wsX1_rowAt) := goodIn_app (goodIn_of _ (by decide +kernel)) ggX1_putPage_X1_rowAt
theorem dX1_putPage_0 : decode cX1_putPage 0 = .ok (.aload_n 0, 1) := by decide +kernel
theorem dX1_putPage_1 : decode cX1_putPage 1 = .ok (.getfield 22, 3) := by decide +kernel
theorem dX1_putPage_4 : decode cX1_putPage 4 = .ok (.bipush 40, 2) := by decide +kernel
theorem dX1_putPage_6 : decode cX1_putPage 6 = .ok (.if_icmp .lt 4, 3) := by decide +kernel
theorem dX1_putPage_9 : decode cX1_putPage 9 = .ok (.return_, 1) := by decide +kernel
theorem dX1_putPage_10 : decode cX1_putPage 10 = .ok (.aload_n 0, 1) := by decide +kernel
theorem dX1_putPage_11 : decode cX1_putPage 11 = .ok (.getfield 22, 3) := by decide +kernel
theorem dX1_putPage_14 : decode cX1_putPage 14 = .ok (.iconst 4, 1) := by decide +kernel
theorem dX1_putPage_15 : decode cX1_putPage 15 = .ok (.imul, 1) := by decide +kernel
theorem dX1_putPage_16 : decode cX1_putPage 16 = .ok (.istore 4, 2) := by decide +kernel
theorem dX1_putPage_18 : decode cX1_putPage 18 = .ok (.aload_n 0, 1) := by decide +kernel
theorem dX1_putPage_19 : decode cX1_putPage 19 = .ok (.dup, 1) := by decide +kernel
theorem dX1_putPage_20 : decode cX1_putPage 20 = .ok (.getfield 22, 3) := by decide +kernel
theorem dX1_putPage_23 : decode cX1_putPage 23 = .ok (.iconst 1, 1) := by decide +kernel
theorem dX1_putPage_24 : decode cX1_putPage 24 = .ok (.iadd, 1) := by decide +kernel
theorem dX1_putPage_25 : decode cX1_putPage 25 = .ok (.putfield 22, 3) := by decide +kernel
theorem dX1_putPage_28 : decode cX1_putPage 28 = .ok (.aload_n 0, 1) := by decide +kernel
theorem dX1_putPage_29 : decode cX1_putPage 29 = .ok (.getfield 15, 3) := by decide +kernel
theorem dX1_putPage_32 : decode cX1_putPage 32 = .ok (.iload 4, 2) := by decide +kernel
theorem dX1_putPage_34 : decode cX1_putPage 34 = .ok (.iconst 0, 1) := by decide +kernel
theorem dX1_putPage_35 : decode cX1_putPage 35 = .ok (.iadd, 1) := by decide +kernel
theorem dX1_putPage_36 : decode cX1_putPage 36 = .ok (.aload_n 0, 1) := by decide +kernel
theorem dX1_putPage_37 : decode cX1_putPage 37 = .ok (.iload_n 1, 1) := by decide +kernel
theorem dX1_putPage_38 : decode cX1_putPage 38 = .ok (.invokevirtual 59, 3) := by decide +kernel
theorem dX1_putPage_41 : decode cX1_putPage 41 = .ok (.iastore, 1) := by decide +kernel
theorem dX1_putPage_42 : decode cX1_putPage 42 = .ok (.aload_n 0, 1) := by decide +kernel
theorem dX1_putPage_43 : decode cX1_putPage 43 = .ok (.getfield 15, 3) := by decide +kernel
theorem dX1_putPage_46 : decode cX1_putPage 46 = .ok (.iload 4, 2) := by decide +kernel
theorem dX1_putPage_48 : decode cX1_putPage 48 = .ok (.iconst 1, 1) := by decide +kernel
theorem dX1_putPage_49 : decode cX1_putPage 49 = .ok (.iadd, 1) := by decide +kernel
theorem dX1_putPage_50 : decode cX1_putPage 50 = .ok (.aload_n 0, 1) := by decide +kernel
theorem dX1_putPage_51 : decode cX1_putPage 51 = .ok (.iload_n 1, 1) := by decide +kernel
theorem dX1_putPage_52 : decode cX1_putPage 52 = .ok (.iload_n 2, 1) := by decide +kernel
theorem dX1_putPage_53 : decode cX1_putPage 53 = .ok (.iadd, 1) := by decide +kernel
theorem dX1_putPage_54 : decode cX1_putPage 54 = .ok (.invokevirtual 59, 3) := by decide +kernel
theorem dX1_putPage_57 : decode cX1_putPage 57 = .ok (.aload_n 0, 1) := by decide +kernel
theorem dX1_putPage_58 : decode cX1_putPage 58 = .ok (.iload_n 1, 1) := by decide +kernel
theorem dX1_putPage_59 : decode cX1_putPage 59 = .ok (.invokevirtual 59, 3) := by decide +kernel
theorem dX1_putPage_62 : decode cX1_putPage 62 = .ok (.isub, 1) := by decide +kernel
theorem dX1_putPage_63 : decode cX1_putPage 63 = .ok (.iastore, 1) := by decide +kernel
theorem dX1_putPage_64 : decode cX1_putPage 64 = .ok (.aload_n 0, 1) := by decide +kernel
theorem dX1_putPage_65 : decode cX1_putPage 65 = .ok (.getfield 15, 3) := by decide +kernel
theorem dX1_putPage_68 : decode cX1_putPage 68 = .ok (.iload 4, 2) := by decide +kernel
theorem dX1_putPage_70 : decode cX1_putPage 70 = .ok (.iconst 2, 1) := by decide +kernel
theorem dX1_putPage_71 : decode cX1_putPage 71 = .ok (.iadd, 1) := by decide +kernel
theorem dX1_putPage_72 : decode cX1_putPage 72 = .ok (.iload_n 2, 1) := by decide +kernel
theorem dX1_putPage_73 : decode cX1_putPage 73 = .ok (.iastore, 1) := by decide +kernel
theorem dX1_putPage_74 : decode cX1_putPage 74 = .ok (.aload_n 0, 1) := by decide +kernel
theorem dX1_putPage_75 : decode cX1_putPage 75 = .ok (.getfield 15, 3) := by decide +kernel
theorem dX1_putPage_78 : decode cX1_putPage 78 = .ok (.iload 4, 2) := by decide +kernel
theorem dX1_putPage_80 : decode cX1_putPage 80 = .ok (.iconst 3, 1) := by decide +kernel
theorem dX1_putPage_81 : decode cX1_putPage 81 = .ok (.iadd, 1) := by decide +kernel
theorem dX1_putPage_82 : decode cX1_putPage 82 = .ok (.iload_n 3, 1) := by decide +kernel
theorem dX1_putPage_83 : decode cX1_putPage 83 = .ok (.iastore, 1) := by decide +kernel
theorem dX1_putPage_84 : decode cX1_putPage 84 = .ok (.return_, 1) := by decide +kernel
theorem dX1_rowAt_0 : decode cX1_rowAt 0 = .ok (.iload_n 1, 1) := by decide +kernel
theorem dX1_rowAt_1 : decode cX1_rowAt 1 = .ok (.ifCond .lt 20, 3) := by decide +kernel
theorem dX1_rowAt_4 : decode cX1_rowAt 4 = .ok (.iload_n 1, 1) := by decide +kernel
theorem dX1_rowAt_5 : decode cX1_rowAt 5 = .ok (.aload_n 0, 1) := by decide +kernel
theorem dX1_rowAt_6 : decode cX1_rowAt 6 = .ok (.getfield 26, 3) := by decide +kernel
theorem dX1_rowAt_9 : decode cX1_rowAt 9 = .ok (.if_icmp .gt 12, 3) := by decide +kernel
theorem dX1_rowAt_12 : decode cX1_rowAt 12 = .ok (.aload_n 0, 1) := by decide +kernel
theorem dX1_rowAt_13 : decode cX1_rowAt 13 = .ok (.getfield 9, 3) := by decide +kernel
theorem dX1_rowAt_16 : decode cX1_rowAt 16 = .ok (.iload_n 1, 1) := by decide +kernel
theorem dX1_rowAt_17 : decode cX1_rowAt 17 = .ok (.iaload, 1) := by decide +kernel
theorem dX1_rowAt_18 : decode cX1_rowAt 18 = .ok (.goto 5, 3) := by decide +kernel
theorem dX1_rowAt_21 : decode cX1_rowAt 21 = .ok (.bipush (-100), 2) := by decide +kernel
theorem dX1_rowAt_23 : decode cX1_rowAt 23 = .ok (.ireturn, 1) := by decide +kernel
theorem kX1_init_9 : Cond.fieldLink RX1 9 (TX1 0).1 (TX1 0).2.1 (TX1 0).2.2.1 ∈ wsX1_init := by decide +kernel
theorem kX1_init_15 : Cond.fieldLink RX1 15 (TX1 1).1 (TX1 1).2.1 (TX1 1).2.2.1 ∈ wsX1_init := by decide +kernel
theorem iX1_init_X1 : ∀ w ∈ u_ws RX1 TX1 4, w ∈ wsX1_init := by decide +kernel
theorem kaX1_init_I : Cond.arrayClass .int ∈ wsX1_init := by decide +kernel
theorem kqX1_init : Cond.code objectInit ⟨#[0xb1]⟩ 1 none ∈ wsX1_init := by decide +kernel
theorem kpX1_init : Cond.instanceMethod objectInit ∈ wsX1_init := by decide +kernel
theorem koX1_init : Cond.methodLink RX1 3 objectInit ∈ wsX1_init := by decide +kernel
set_option maxHeartbeats 4000000 in
set_option maxRecDepth 100000 in
theorem RX1_init (l : Launch) (D : va_G) (g : q_A) (S : q_S) (a0 : Nat) (Q : q_S → Prop) (h : wX1_init a0 Q S) : q_Mv l yX1_init wsX1_init rmX1_init D g [.ref a0] S Q := by
  refine q_Mv.of (cc := cX1_init) (nL := 1) (by decide +kernel) rfl (Nat.le_of_ble_eq_true rfl) rfl ?_
  intro p e s m args below meth c ls A C hr hnm hp hl
  have C : q_X p s m args meth c cX1_init 1 RX1 wsX1_init D g A := C
  have hx := C.1
  have hb := C.2.1
  have hl : q_l ls 1 [(0, .ref a0)] := hl
  unfold wX1_init at h
  refine lv_aload_n hx hb dX1_init_0 rfl (q_at hl 0 rfl) ?_
  refine q_objI C koX1_init kpX1_init kqX1_init hl.1.1 dX1_init_1 (Nat.le_of_ble_eq_true rfl) (Nat.le_of_ble_eq_true rfl) ?_
  refine lv_aload_n hx hb dX1_init_4 rfl (q_at hl 0 rfl) ?_
  refine lv_bipush (v := 41) hx hb dX1_init_5 (by decide) ?_
  refine q_rNI (N' := 41) C hp h kaX1_init_I (by decide) (by decide) (by decide) (Nat.le_of_ble_eq_true rfl) (Nat.le_of_ble_eq_true rfl) dX1_init_7 (fun q_1 S_2 H h hp => ?_)
  refine W.widen (k := 1) (n := 41) (Nat.le_of_ble_eq_true rfl) (Nat.le_of_ble_eq_true rfl) ?_
  refine q_fP C hp h hnm tyX1 tyX1_ok nmX1 rfl iX1_init_X1 (by decide) kX1_init_9 rfl rfl rfl rfl rfl dX1_init_9 (fun S_3 H locs h hp => ?_)
  refine lv_aload_n hx hb dX1_init_12 rfl (q_at hl 0 rfl) ?_
  refine lv_sipush (v := 160) hx hb dX1_init_13 (by decide) ?_
  refine q_rNI (N' := 160) C hp h kaX1_init_I (by decide) (by decide) (by decide) (Nat.le_of_ble_eq_true rfl) (Nat.le_of_ble_eq_true rfl) dX1_init_16 (fun q_4 S_5 H h hp => ?_)
  refine W.widen (k := 2) (n := 201) (Nat.le_of_ble_eq_true rfl) (Nat.le_of_ble_eq_true rfl) ?_
  refine q_fP C hp h hnm tyX1 tyX1_ok nmX1 rfl iX1_init_X1 (by decide) kX1_init_15 rfl rfl rfl rfl rfl dX1_init_18 (fun S_6 H locs h hp => ?_)
  refine W.widen (k := rmX1_init.cells) (n := rmX1_init.slots) (Nat.le_of_ble_eq_true rfl) (Nat.le_of_ble_eq_true rfl) ?_
  exact q_vret C hp hr h dX1_init_21
theorem kX1_beginSystem_9 : Cond.fieldLink RX1 9 (TX1 0).1 (TX1 0).2.1 (TX1 0).2.2.1 ∈ wsX1_beginSystem := by decide +kernel
theorem kX1_beginSystem_26 : Cond.fieldLink RX1 26 (TX1 2).1 (TX1 2).2.1 (TX1 2).2.2.1 ∈ wsX1_beginSystem := by decide +kernel
theorem iX1_beginSystem_X1 : ∀ w ∈ u_ws RX1 TX1 4, w ∈ wsX1_beginSystem := by decide +kernel
set_option maxHeartbeats 4000000 in
set_option maxRecDepth 100000 in
theorem RX1_beginSystem (l : Launch) (D : va_G) (g : q_A) (S : q_S) (a0 : Nat) (x1 : Int32) (Q : q_S → Prop) (h : wX1_beginSystem a0 x1 Q S) : q_Mv l yX1_beginSystem wsX1_beginSystem rmX1_beginSystem D g [.ref a0, .int x1] S Q := by
  refine q_Mv.of (cc := cX1_beginSystem) (nL := 2) (by decide +kernel) rfl (Nat.le_of_ble_eq_true rfl) rfl ?_
  intro p e s m args below meth c ls A C hr hnm hp hl
  have C : q_X p s m args meth c cX1_beginSystem 2 RX1 wsX1_beginSystem D g A := C
  have hx := C.1
  have hb := C.2.1
  have hl : q_l ls 2 [(0, .ref a0), (1, .int x1)] := hl
  unfold wX1_beginSystem at h
  replace h := h.2
  refine lv_aload_n hx hb dX1_beginSystem_0 rfl (q_at hl 0 rfl) ?_
  refine q_rGI C hp h rfl iX1_beginSystem_X1 (by decide) kX1_beginSystem_26 dX1_beginSystem_1 (fun v_1 h => ?_)
  refine lv_bipush (v := 40) hx hb dX1_beginSystem_4 (by decide) ?_
  refine lv_icmp_ge (tgt := 29) hx hb dX1_beginSystem_6 (by decide) (fun c_2 => ?_) (fun c_2 => ?_)
  · replace h := h.1 c_2
    exact q_vret C hp hr h dX1_beginSystem_29
  · replace h := h.2 c_2
    refine lv_aload_n hx hb dX1_beginSystem_9 rfl (q_at hl 0 rfl) ?_
    refine q_rGR C hp h rfl iX1_beginSystem_X1 (by decide) kX1_beginSystem_9 dX1_beginSystem_10 (fun r_3 h => ?_)
    refine lv_aload_n hx hb dX1_beginSystem_13 rfl (q_at hl 0 rfl) ?_
    refine q_rGI C hp h rfl iX1_beginSystem_X1 (by decide) kX1_beginSystem_26 dX1_beginSystem_14 (fun v_4 h => ?_)
    refine lv_iload_n hx hb dX1_beginSystem_17 rfl (q_at hl 1 rfl) ?_
    refine q_rSI C hp h dX1_beginSystem_18 (fun S_5 H locs h hp => ?_)
    refine lv_aload_n hx hb dX1_beginSystem_19 rfl (q_at hl 0 rfl) ?_
    refine lv_dup hx hb dX1_beginSystem_20 rfl ?_
    refine q_rGI C hp h rfl iX1_beginSystem_X1 (by decide) kX1_beginSystem_26 dX1_beginSystem_21 (fun v_6 h => ?_)
    refine lv_iconst (v := 1) hx hb dX1_beginSystem_24 (by decide) ?_
    refine lv_iadd hx hb dX1_beginSystem_25 ?_
    refine q_rP C hp h tyX1 tyX1_ok nmX1 rfl iX1_beginSystem_X1 (by decide) kX1_beginSystem_26 rfl rfl rfl rfl dX1_beginSystem_26 (fun S_7 H locs h hp => ?_)
    exact q_vret C hp hr h dX1_beginSystem_29
theorem kX1_fillSystems_9 : Cond.fieldLink RX1 9 (TX1 0).1 (TX1 0).2.1 (TX1 0).2.2.1 ∈ wsX1_fillSystems := by decide +kernel
theorem kX1_fillSystems_26 : Cond.fieldLink RX1 26 (TX1 2).1 (TX1 2).2.1 (TX1 2).2.2.1 ∈ wsX1_fillSystems := by decide +kernel
theorem kX1_fillSystems_33 : Cond.fieldLinkNest RX1 33 (TX4 2).1 (TX4 2).2.1 (TX4 2).2.2.1 RX7 ∈ q_nest := by decide +kernel
theorem iX1_fillSystems_X1 : ∀ w ∈ u_ws RX1 TX1 4, w ∈ wsX1_fillSystems := by decide +kernel
theorem iX1_fillSystems_X4 : ∀ w ∈ u_ws RX4 TX4 3, w ∈ wsX1_fillSystems := by decide +kernel
theorem kmin4X1_fillSystems : Cond.code Lib.Math.min.name Lib.Math.min.code 2 (some .int) ∈ wsX1_fillSystems := by decide +kernel
theorem kmin3X1_fillSystems : Cond.initialized "java/lang/Math" ∈ wsX1_fillSystems := by decide +kernel
theorem kmin1X1_fillSystems : Cond.methodLink RX1 46 Lib.Math.min.name ∈ wsX1_fillSystems := by decide +kernel
theorem kmin2X1_fillSystems : Cond.static Lib.Math.min.name ∈ wsX1_fillSystems := by decide +kernel
set_option maxHeartbeats 4000000 in
set_option maxRecDepth 100000 in
theorem RX1_fillSystems (l : Launch) (D : va_G) (g : q_A) (S : q_S) (a0 : Nat) (a1 : Nat) (x2 : Int32) (Q : q_S → Prop) (h : wX1_fillSystems a0 a1 x2 Q S) : q_Mv l yX1_fillSystems wsX1_fillSystems rmX1_fillSystems D g [.ref a0, .ref a1, .int x2] S Q := by
  refine q_Mv.of (cc := cX1_fillSystems) (nL := 6) (by decide +kernel) rfl (Nat.le_of_ble_eq_true rfl) rfl ?_
  intro p e s m args below meth c ls A C hr hnm hp hl
  have C : q_X p s m args meth c cX1_fillSystems 6 RX1 wsX1_fillSystems D g A := C
  have hx := C.1
  have hb := C.2.1
  have hl : q_l ls 6 [(0, .ref a0), (1, .ref a1), (2, .int x2)] := hl
  have j67 : ∀ (a0 : Nat) (a1 : Nat) (S : q_S) (H : Heap) (locs : List Loc) (ls : Array Slot), wX1_fillSystems_b67 Q a0 a1 S → q_P D g A s.heap S H locs → q_l ls 6 [(0, .ref a0), (1, .ref a1)] → W p l e rmX1_fillSystems s m args below meth c H locs 0 0 (MQ below (va_Qv Q (q_B D g A) A) args s rmX1_fillSystems.cells rmX1_fillSystems.slots A) (F0 m 67 ls []) := by
    intro a0 a1 S H locs ls h hp hl
    unfold wX1_fillSystems_b67 at h
    refine lv_aload_n hx hb dX1_fillSystems_67 rfl (q_at hl 0 rfl) ?_
    refine q_rGR C hp h rfl iX1_fillSystems_X1 (by decide) kX1_fillSystems_9 dX1_fillSystems_68 (fun r_1 h => ?_)
    refine lv_aload_n hx hb dX1_fillSystems_71 rfl (q_at hl 0 rfl) ?_
    refine q_rGI C hp h rfl iX1_fillSystems_X1 (by decide) kX1_fillSystems_26 dX1_fillSystems_72 (fun v_2 h => ?_)
    refine lv_bipush (v := 40) hx hb dX1_fillSystems_75 (by decide) ?_
    refine q_min C hl.1.1 kmin1X1_fillSystems kmin2X1_fillSystems kmin3X1_fillSystems kmin4X1_fillSystems (Nat.le_of_ble_eq_true rfl) (Nat.le_of_ble_eq_true rfl) (Nat.zero_le _) (Nat.zero_le _) dX1_fillSystems_77 ?_
    refine lv_aload_n hx hb dX1_fillSystems_80 rfl (q_at hl 1 rfl) ?_
    refine q_nGI C hp h rfl iX1_fillSystems_X4 (by decide) kX1_fillSystems_33 dX1_fillSystems_81 (fun v_3 h => ?_)
    refine q_rSI C hp h dX1_fillSystems_84 (fun S_4 H locs h hp => ?_)
    exact q_vret C hp hr h dX1_fillSystems_85
  have j56 : ∀ (k10 : Nat → Nat → Int32 → Int32 → Int32 → q_S → Prop) (ih10 : ∀ (a0 : Nat) (a1 : Nat) (x2 : Int32) (x3 : Int32) (x4 : Int32) (S : q_S) (H : Heap) (locs : List Loc) (ls : Array Slot), k10 a0 a1 x2 x3 x4 S → q_P D g A s.heap S H locs → q_l ls 6 [(0, .ref a0), (1, .ref a1), (2, .int x2), (3, .int x3), (4, .int x4)] → W p l e rmX1_fillSystems s m args below meth c H locs 0 0 (MQ below (va_Qv Q (q_B D g A) A) args s rmX1_fillSystems.cells rmX1_fillSystems.slots A) (F0 m 10 ls [])) (a0 : Nat) (a1 : Nat) (x2 : Int32) (x3 : Int32) (x4 : Int32) (x5 : Int32) (S : q_S) (H : Heap) (locs : List Loc) (ls : Array Slot), wX1_fillSystems_b56 Q k10 a0 a1 x2 x3 x4 x5 S → q_P D g A s.heap S H locs → q_l ls 6 [(0, .ref a0), (1, .ref a1), (2, .int x2), (3, .int x3), (4, .int x4), (5, .int x5)] → W p l e rmX1_fillSystems s m args below meth c H locs 0 0 (MQ below (va_Qv Q (q_B D g A) A) args s rmX1_fillSystems.cells rmX1_fillSystems.slots A) (F0 m 56 ls []) := by
    intro k10 ih10 a0 a1 x2 x3 x4 x5 S H locs ls h hp hl
    unfold wX1_fillSystems_b56 at h
    refine lv_iload_n hx hb dX1_fillSystems_56 rfl (q_at hl 3 rfl) ?_
    refine lv_iload hx hb dX1_fillSystems_57 (q_at hl 5 rfl) ?_
    refine lv_iadd hx hb dX1_fillSystems_59 ?_
    refine q_istn (lv' := [(3, .int (x3 + x5)), (0, .ref a0), (1, .ref a1), (2, .int x2), (4, .int x4), (5, .int x5)]) hx hb dX1_fillSystems_60 rfl hl (by decide) rfl (fun ls hl => ?_)
    refine q_inc (x := x4) (v := (x4 + (1 : Int32))) (lv' := [(4, .int (x4 + (1 : Int32))), (3, .int (x3 + x5)), (0, .ref a0), (1, .ref a1), (2, .int x2), (5, .int x5)]) hx hb dX1_fillSystems_61 hl (k := 4) rfl rfl (by decide) rfl (fun ls hl => ?_)
    refine lv_goto (tgt := 10) hx hb dX1_fillSystems_64 (by decide) ?_
    exact ih10 a0 a1 x2 (x3 + x5) (x4 + (1 : Int32)) _ _ _ _ h hp (q_sub hl [2, 3, 4, 1, 0] rfl)
  have j48 : ∀ (k10 : Nat → Nat → Int32 → Int32 → Int32 → q_S → Prop) (ih10 : ∀ (a0 : Nat) (a1 : Nat) (x2 : Int32) (x3 : Int32) (x4 : Int32) (S : q_S) (H : Heap) (locs : List Loc) (ls : Array Slot), k10 a0 a1 x2 x3 x4 S → q_P D g A s.heap S H locs → q_l ls 6 [(0, .ref a0), (1, .ref a1), (2, .int x2), (3, .int x3), (4, .int x4)] → W p l e rmX1_fillSystems s m args below meth c H locs 0 0 (MQ below (va_Qv Q (q_B D g A) A) args s rmX1_fillSystems.cells rmX1_fillSystems.slots A) (F0 m 10 ls [])) (a0 : Nat) (a1 : Nat) (x2 : Int32) (x4 : Int32) (x5 : Int32) (S : q_S) (H : Heap) (locs : List Loc) (ls : Array Slot), wX1_fillSystems_b48 Q k10 a0 a1 x2 x4 x5 S → q_P D g A s.heap S H locs → q_l ls 6 [(0, .ref a0), (1, .ref a1), (2, .int x2), (4, .int x4), (5, .int x5)] → W p l e rmX1_fillSystems s m args below meth c H locs 0 0 (MQ below (va_Qv Q (q_B D g A) A) args s rmX1_fillSystems.cells rmX1_fillSystems.slots A) (F0 m 48 ls []) := by
    intro k10 ih10 a0 a1 x2 x4 x5 S H locs ls h hp hl
    unfold wX1_fillSystems_b48 at h
    refine lv_aload_n hx hb dX1_fillSystems_48 rfl (q_at hl 0 rfl) ?_
    refine lv_iload hx hb dX1_fillSystems_49 (q_at hl 3 rfl) ?_
    refine q_finV0 C hp (q_runV (As := [.int x4]) (rest := []) C hp (RX1_beginSystem l D g _ a0 x4 _ h _) (cwV 1 C.2.2.2.2.1 gX1_fillSystems_X1_beginSystem rfl rfl rfl (by decide +kernel) ⟨(Nat.le_of_ble_eq_true rfl), (Nat.le_of_ble_eq_true rfl)⟩) h.1 rfl rfl hl.1.1 rfl (Nat.le_of_ble_eq_true rfl) dX1_fillSystems_51 ⟨(Nat.le_of_ble_eq_true rfl), (Nat.le_of_ble_eq_true rfl)⟩) rfl rfl (fun S_5 H locs h hp => ?_)
    refine lv_iconst (v := 0) hx hb dX1_fillSystems_54 (by decide) ?_
    refine q_istn (lv' := [(3, .int (0 : Int32)), (0, .ref a0), (1, .ref a1), (2, .int x2), (4, .int x4), (5, .int x5)]) hx hb dX1_fillSystems_55 rfl hl (by decide) rfl (fun ls hl => ?_)
    exact j56 k10 ih10 a0 a1 x2 (0 : Int32) x4 x5 _ _ _ _ h hp (q_sub hl [1, 2, 3, 0, 4, 5] rfl)
  have j10 : ∀ (n : Nat), ∀ (a0 : Nat) (a1 : Nat) (x2 : Int32) (x3 : Int32) (x4 : Int32) (S : q_S) (H : Heap) (locs : List Loc) (ls : Array Slot), lX1_fillSystems_b10 Q n a0 a1 x2 x3 x4 S → q_P D g A s.heap S H locs → q_l ls 6 [(0, .ref a0), (1, .ref a1), (2, .int x2), (3, .int x3), (4, .int x4)] → W p l e rmX1_fillSystems s m args below meth c H locs 0 0 (MQ below (va_Qv Q (q_B D g A) A) args s rmX1_fillSystems.cells rmX1_fillSystems.slots A) (F0 m 10 ls []) := by
    intro n
    induction n with
    | zero => intro a0 a1 x2 x3 x4 S H locs ls h; exact absurd h (fun h => h)
    | succ n ih10 =>
      intro a0 a1 x2 x3 x4 S H locs ls h hp hl
      have h : wX1_fillSystems_b10 Q (lX1_fillSystems_b10 Q n) a0 a1 x2 x3 x4 S := h
      unfold wX1_fillSystems_b10 at h
      refine lv_iload hx hb dX1_fillSystems_10 (q_at hl 4 rfl) ?_
      refine lv_aload_n hx hb dX1_fillSystems_12 rfl (q_at hl 1 rfl) ?_
      refine q_nGI C hp h rfl iX1_fillSystems_X4 (by decide) kX1_fillSystems_33 dX1_fillSystems_13 (fun v_6 h => ?_)
      refine lv_icmp_ge (tgt := 67) hx hb dX1_fillSystems_16 (by decide) (fun c_7 => ?_) (fun c_7 => ?_)
      · replace h := h.1 c_7
        exact j67 a0 a1 _ _ _ _ h hp (q_sub hl [0, 1] rfl)
      · replace h := h.2 c_7
        refine lv_iload hx hb dX1_fillSystems_19 (q_at hl 4 rfl) ?_
        refine lv_bipush (v := 40) hx hb dX1_fillSystems_21 (by decide) ?_
        refine lv_icmp_ge (tgt := 67) hx hb dX1_fillSystems_23 (by decide) (fun c_8 => ?_) (fun c_8 => ?_)
        · replace h := h.1 c_8
          exact j67 a0 a1 _ _ _ _ h hp (q_sub hl [0, 1] rfl)
        · replace h := h.2 c_8
          refine lv_aload_n hx hb dX1_fillSystems_26 rfl (q_at hl 1 rfl) ?_
          refine lv_iload hx hb dX1_fillSystems_27 (q_at hl 4 rfl) ?_
          refine lv_iconst (v := 3) hx hb dX1_fillSystems_29 (by decide) ?_
          refine q_finI0 C hp (q_runV (As := [.int x4, .int (3 : Int32)]) (rest := []) C hp (RX4_figure l D g _ a1 x4 (3 : Int32) _ h _) (cwV 2 C.2.2.2.2.1 gX1_fillSystems_X4_figure rfl rfl rfl (by decide +kernel) ⟨(Nat.le_of_ble_eq_true rfl), (Nat.le_of_ble_eq_true rfl)⟩) h.1 rfl rfl hl.1.1 rfl (Nat.le_of_ble_eq_true rfl) dX1_fillSystems_30 ⟨(Nat.le_of_ble_eq_true rfl), (Nat.le_of_ble_eq_true rfl)⟩) rfl rfl (fun v_10 S_9 H locs h hp => ?_)
          refine q_ist (lv' := [(5, .int v_10), (0, .ref a0), (1, .ref a1), (2, .int x2), (3, .int x3), (4, .int x4)]) hx hb dX1_fillSystems_33 hl (by decide) rfl (fun ls hl => ?_)
          refine lv_iload hx hb dX1_fillSystems_35 (q_at hl 5 rfl) ?_
          refine lv_if_eq (tgt := 48) hx hb dX1_fillSystems_37 (by decide) (fun c_11 => ?_) (fun c_11 => ?_)
          · replace h := h.1 c_11
            exact j48 (lX1_fillSystems_b10 Q n) ih10 a0 a1 x2 x4 v_10 _ _ _ _ h hp (q_sub hl [1, 2, 3, 5, 0] rfl)
          · replace h := h.2 c_11
            refine lv_iload_n hx hb dX1_fillSystems_40 rfl (q_at hl 4 rfl) ?_
            refine lv_iload hx hb dX1_fillSystems_41 (q_at hl 0 rfl) ?_
            refine lv_iadd hx hb dX1_fillSystems_43 ?_
            refine lv_iload_n hx hb dX1_fillSystems_44 rfl (q_at hl 3 rfl) ?_
            refine lv_icmp_le (tgt := 56) hx hb dX1_fillSystems_45 (by decide) (fun c_12 => ?_) (fun c_12 => ?_)
            · replace h := h.1 c_12
              exact j56 (lX1_fillSystems_b10 Q n) ih10 a0 a1 x2 x3 x4 v_10 _ _ _ _ h hp (q_sub hl [1, 2, 3, 4, 5, 0] rfl)
            · replace h := h.2 c_12
              exact j48 (lX1_fillSystems_b10 Q n) ih10 a0 a1 x2 x4 v_10 _ _ _ _ h hp (q_sub hl [1, 2, 3, 5, 0] rfl)
  unfold wX1_fillSystems at h
  replace h := h.2
  refine lv_aload_n hx hb dX1_fillSystems_0 rfl (q_at hl 0 rfl) ?_
  refine lv_iconst (v := 0) hx hb dX1_fillSystems_1 (by decide) ?_
  refine q_rP C hp h tyX1 tyX1_ok nmX1 rfl iX1_fillSystems_X1 (by decide) kX1_fillSystems_26 rfl rfl rfl rfl dX1_fillSystems_2 (fun S_13 H locs h hp => ?_)
  refine lv_iconst (v := 0) hx hb dX1_fillSystems_5 (by decide) ?_
  refine q_istn (lv' := [(3, .int (0 : Int32)), (0, .ref a0), (1, .ref a1), (2, .int x2)]) hx hb dX1_fillSystems_6 rfl hl (by decide) rfl (fun ls hl => ?_)
  refine lv_iconst (v := 0) hx hb dX1_fillSystems_7 (by decide) ?_
  refine q_ist (lv' := [(4, .int (0 : Int32)), (3, .int (0 : Int32)), (0, .ref a0), (1, .ref a1), (2, .int x2)]) hx hb dX1_fillSystems_8 hl (by decide) rfl (fun ls hl => ?_)
  exact j10 q_fuel a0 a1 x2 (0 : Int32) (0 : Int32) _ _ _ _ h hp (q_sub hl [2, 3, 4, 1, 0] rfl)
theorem kX1_rowAt_9 : Cond.fieldLink RX1 9 (TX1 0).1 (TX1 0).2.1 (TX1 0).2.2.1 ∈ wsX1_rowAt := by decide +kernel
theorem kX1_rowAt_26 : Cond.fieldLink RX1 26 (TX1 2).1 (TX1 2).2.1 (TX1 2).2.2.1 ∈ wsX1_rowAt := by decide +kernel
theorem iX1_rowAt_X1 : ∀ w ∈ u_ws RX1 TX1 4, w ∈ wsX1_rowAt := by decide +kernel
set_option maxHeartbeats 4000000 in
set_option maxRecDepth 100000 in
theorem RX1_rowAt (l : Launch) (D : va_G) (g : q_A) (S : q_S) (a0 : Nat) (x1 : Int32) (Q : Int32 → q_S → Prop) (h : wX1_rowAt a0 x1 Q S) : q_Mi l yX1_rowAt wsX1_rowAt rmX1_rowAt D g [.ref a0, .int x1] S Q := by
  refine q_Mi.of (cc := cX1_rowAt) (nL := 2) (rt := .int) (by decide +kernel) rfl (Nat.le_of_ble_eq_true rfl) rfl ?_
  intro p e s m args below meth c ls A C hr hnm hp hl
  have C : q_X p s m args meth c cX1_rowAt 2 RX1 wsX1_rowAt D g A := C
  have hx := C.1
  have hb := C.2.1
  have hl : q_l ls 2 [(0, .ref a0), (1, .int x1)] := hl
  unfold wX1_rowAt at h
  replace h := h.2
  refine lv_iload_n hx hb dX1_rowAt_0 rfl (q_at hl 1 rfl) ?_
  refine lv_if_lt (tgt := 21) hx hb dX1_rowAt_1 (by decide) (fun c_1 => ?_) (fun c_1 => ?_)
  · replace h := h.1 c_1
    refine lv_bipush (v := (-100)) hx hb dX1_rowAt_21 (by decide) ?_
    exact q_iret C hp hr h dX1_rowAt_23
  · replace h := h.2 c_1
    refine lv_iload_n hx hb dX1_rowAt_4 rfl (q_at hl 1 rfl) ?_
    refine lv_aload_n hx hb dX1_rowAt_5 rfl (q_at hl 0 rfl) ?_
    refine q_rGI C hp h rfl iX1_rowAt_X1 (by decide) kX1_rowAt_26 dX1_rowAt_6 (fun v_2 h => ?_)
    refine lv_icmp_gt (tgt := 21) hx hb dX1_rowAt_9 (by decide) (fun c_3 => ?_) (fun c_3 => ?_)
    · replace h := h.1 c_3
      refine lv_bipush (v := (-100)) hx hb dX1_rowAt_21 (by decide) ?_
      exact q_iret C hp hr h dX1_rowAt_23
    · replace h := h.2 c_3
      refine lv_aload_n hx hb dX1_rowAt_12 rfl (q_at hl 0 rfl) ?_
      refine q_rGR C hp h rfl iX1_rowAt_X1 (by decide) kX1_rowAt_9 dX1_rowAt_13 (fun r_4 h => ?_)
      refine lv_iload_n hx hb dX1_rowAt_16 rfl (q_at hl 1 rfl) ?_
      refine q_rLI C hp h dX1_rowAt_17 (fun v_5 h => ?_)
      refine lv_goto (tgt := 23) hx hb dX1_rowAt_18 (by decide) ?_
      exact q_iret C hp hr h dX1_rowAt_23
theorem kX1_putPage_15 : Cond.fieldLink RX1 15 (TX1 1).1 (TX1 1).2.1 (TX1 1).2.2.1 ∈ wsX1_putPage := by decide +kernel
theorem kX1_putPage_22 : Cond.fieldLink RX1 22 (TX1 3).1 (TX1 3).2.1 (TX1 3).2.2.1 ∈ wsX1_putPage := by decide +kernel
theorem iX1_putPage_X1 : ∀ w ∈ u_ws RX1 TX1 4, w ∈ wsX1_putPage := by decide +kernel
set_option maxHeartbeats 4000000 in
set_option maxRecDepth 100000 in
theorem RX1_putPage (l : Launch) (D : va_G) (g : q_A) (S : q_S) (a0 : Nat) (x1 : Int32) (x2 : Int32) (x3 : Int32) (Q : q_S → Prop) (h : wX1_putPage a0 x1 x2 x3 Q S) : q_Mv l yX1_putPage wsX1_putPage rmX1_putPage D g [.ref a0, .int x1, .int x2, .int x3] S Q := by
  refine q_Mv.of (cc := cX1_putPage) (nL := 5) (by decide +kernel) rfl (Nat.le_of_ble_eq_true rfl) rfl ?_
  intro p e s m args below meth c ls A C hr hnm hp hl
  have C : q_X p s m args meth c cX1_putPage 5 RX1 wsX1_putPage D g A := C
  have hx := C.1
  have hb := C.2.1
  have hl : q_l ls 5 [(0, .ref a0), (1, .int x1), (2, .int x2), (3, .int x3)] := hl
  unfold wX1_putPage at h
  replace h := h.2
  refine lv_aload_n hx hb dX1_putPage_0 rfl (q_at hl 0 rfl) ?_
  refine q_rGI C hp h rfl iX1_putPage_X1 (by decide) kX1_putPage_22 dX1_putPage_1 (fun v_1 h => ?_)
  refine lv_bipush (v := 40) hx hb dX1_putPage_4 (by decide) ?_
  refine lv_icmp_lt (tgt := 10) hx hb dX1_putPage_6 (by decide) (fun c_2 => ?_) (fun c_2 => ?_)
  · replace h := h.1 c_2
    refine lv_aload_n hx hb dX1_putPage_10 rfl (q_at hl 0 rfl) ?_
    refine q_rGI C hp h rfl iX1_putPage_X1 (by decide) kX1_putPage_22 dX1_putPage_11 (fun v_3 h => ?_)
    refine lv_iconst (v := 4) hx hb dX1_putPage_14 (by decide) ?_
    refine lv_imul hx hb dX1_putPage_15 ?_
    refine q_ist (lv' := [(4, .int (v_3 * (4 : Int32))), (0, .ref a0), (1, .int x1), (2, .int x2), (3, .int x3)]) hx hb dX1_putPage_16 hl (by decide) rfl (fun ls hl => ?_)
    refine lv_aload_n hx hb dX1_putPage_18 rfl (q_at hl 1 rfl) ?_
    refine lv_dup hx hb dX1_putPage_19 rfl ?_
    refine q_rGI C hp h rfl iX1_putPage_X1 (by decide) kX1_putPage_22 dX1_putPage_20 (fun v_4 h => ?_)
    refine lv_iconst (v := 1) hx hb dX1_putPage_23 (by decide) ?_
    refine lv_iadd hx hb dX1_putPage_24 ?_
    refine q_rP C hp h tyX1 tyX1_ok nmX1 rfl iX1_putPage_X1 (by decide) kX1_putPage_22 rfl rfl rfl rfl dX1_putPage_25 (fun S_5 H locs h hp => ?_)
    refine lv_aload_n hx hb dX1_putPage_28 rfl (q_at hl 1 rfl) ?_
    refine q_rGR C hp h rfl iX1_putPage_X1 (by decide) kX1_putPage_15 dX1_putPage_29 (fun r_6 h => ?_)
    refine lv_iload hx hb dX1_putPage_32 (q_at hl 0 rfl) ?_
    refine lv_iconst (v := 0) hx hb dX1_putPage_34 (by decide) ?_
    refine lv_iadd hx hb dX1_putPage_35 ?_
    refine lv_aload_n hx hb dX1_putPage_36 rfl (q_at hl 1 rfl) ?_
    refine lv_iload_n hx hb dX1_putPage_37 rfl (q_at hl 2 rfl) ?_
    refine q_finI0 C hp (q_runV (As := [.int x1]) (rest := [.int ((v_3 * (4 : Int32)) + (0 : Int32)), .ref r_6]) C hp (RX1_rowAt l D g _ a0 x1 _ h _) (cwV 1 C.2.2.2.2.1 gX1_putPage_X1_rowAt rfl rfl rfl (by decide +kernel) ⟨(Nat.le_of_ble_eq_true rfl), (Nat.le_of_ble_eq_true rfl)⟩) h.1 rfl rfl hl.1.1 rfl (Nat.le_of_ble_eq_true rfl) dX1_putPage_38 ⟨(Nat.le_of_ble_eq_true rfl), (Nat.le_of_ble_eq_true rfl)⟩) rfl rfl (fun v_8 S_7 H locs h hp => ?_)
    refine q_rSI C hp h dX1_putPage_41 (fun S_9 H locs h hp => ?_)
    refine lv_aload_n hx hb dX1_putPage_42 rfl (q_at hl 1 rfl) ?_
    refine q_rGR C hp h rfl iX1_putPage_X1 (by decide) kX1_putPage_15 dX1_putPage_43 (fun r_10 h => ?_)
    refine lv_iload hx hb dX1_putPage_46 (q_at hl 0 rfl) ?_
    refine lv_iconst (v := 1) hx hb dX1_putPage_48 (by decide) ?_
    refine lv_iadd hx hb dX1_putPage_49 ?_
    refine lv_aload_n hx hb dX1_putPage_50 rfl (q_at hl 1 rfl) ?_
    refine lv_iload_n hx hb dX1_putPage_51 rfl (q_at hl 2 rfl) ?_
    refine lv_iload_n hx hb dX1_putPage_52 rfl (q_at hl 3 rfl) ?_
    refine lv_iadd hx hb dX1_putPage_53 ?_
    refine q_finI0 C hp (q_runV (As := [.int (x1 + x2)]) (rest := [.int ((v_3 * (4 : Int32)) + (1 : Int32)), .ref r_10]) C hp (RX1_rowAt l D g _ a0 (x1 + x2) _ h _) (cwV 1 C.2.2.2.2.1 gX1_putPage_X1_rowAt rfl rfl rfl (by decide +kernel) ⟨(Nat.le_of_ble_eq_true rfl), (Nat.le_of_ble_eq_true rfl)⟩) h.1 rfl rfl hl.1.1 rfl (Nat.le_of_ble_eq_true rfl) dX1_putPage_54 ⟨(Nat.le_of_ble_eq_true rfl), (Nat.le_of_ble_eq_true rfl)⟩) rfl rfl (fun v_12 S_11 H locs h hp => ?_)
    refine lv_aload_n hx hb dX1_putPage_57 rfl (q_at hl 1 rfl) ?_
    refine lv_iload_n hx hb dX1_putPage_58 rfl (q_at hl 2 rfl) ?_
    refine q_finI0 C hp (q_runV (As := [.int x1]) (rest := [.int v_12, .int ((v_3 * (4 : Int32)) + (1 : Int32)), .ref r_10]) C hp (RX1_rowAt l D g _ a0 x1 _ h _) (cwV 1 C.2.2.2.2.1 gX1_putPage_X1_rowAt rfl rfl rfl (by decide +kernel) ⟨(Nat.le_of_ble_eq_true rfl), (Nat.le_of_ble_eq_true rfl)⟩) h.1 rfl rfl hl.1.1 rfl (Nat.le_of_ble_eq_true rfl) dX1_putPage_59 ⟨(Nat.le_of_ble_eq_true rfl), (Nat.le_of_ble_eq_true rfl)⟩) rfl rfl (fun v_14 S_13 H locs h hp => ?_)
    refine lv_isub hx hb dX1_putPage_62 ?_
    refine q_rSI C hp h dX1_putPage_63 (fun S_15 H locs h hp => ?_)
    refine lv_aload_n hx hb dX1_putPage_64 rfl (q_at hl 1 rfl) ?_
    refine q_rGR C hp h rfl iX1_putPage_X1 (by decide) kX1_putPage_15 dX1_putPage_65 (fun r_16 h => ?_)
    refine lv_iload hx hb dX1_putPage_68 (q_at hl 0 rfl) ?_
    refine lv_iconst (v := 2) hx hb dX1_putPage_70 (by decide) ?_
    refine lv_iadd hx hb dX1_putPage_71 ?_
    refine lv_iload_n hx hb dX1_putPage_72 rfl (q_at hl 3 rfl) ?_
    refine q_rSI C hp h dX1_putPage_73 (fun S_17 H locs h hp => ?_)
    refine lv_aload_n hx hb dX1_putPage_74 rfl (q_at hl 1 rfl) ?_
    refine q_rGR C hp h rfl iX1_putPage_X1 (by decide) kX1_putPage_15 dX1_putPage_75 (fun r_18 h => ?_)
    refine lv_iload hx hb dX1_putPage_78 (q_at hl 0 rfl) ?_
    refine lv_iconst (v := 3) hx hb dX1_putPage_80 (by decide) ?_
    refine lv_iadd hx hb dX1_putPage_81 ?_
    refine lv_iload_n hx hb dX1_putPage_82 rfl (q_at hl 4 rfl) ?_
    refine q_rSI C hp h dX1_putPage_83 (fun S_19 H locs h hp => ?_)
    exact q_vret C hp hr h dX1_putPage_84
  · replace h := h.2 c_2
    exact q_vret C hp hr h dX1_putPage_9

set_option maxHeartbeats 4000000 in
set_option maxRecDepth 100000 in
theorem RX1_turnsWell (l : Launch) (D : va_G) (g : q_A) (S : q_S) (a0 : Nat) (a1 : Nat) (x2 : Int32) (Q : Int32 → q_S → Prop) (h : wX1_turnsWell a0 a1 x2 Q S) : q_Mi l yX1_turnsWell wsX1_turnsWell rmX1_turnsWell D g [.ref a0, .ref a1, .int x2] S Q := by
  refine q_Mi.of (cc := cX1_turnsWell) (nL := 4) (rt := .boolean) (by decide +kernel) rfl (Nat.le_of_ble_eq_true rfl) rfl ?_
  intro p e s m args below meth c ls A C hr hnm hp hl
  have C : q_X p s m args meth c cX1_turnsWell 4 RX1 wsX1_turnsWell D g A := C
  have hx := C.1
  have hb := C.2.1
  have hl : q_l ls 4 [(0, .ref a0), (1, .ref a1), (2, .int x2)] := hl
  have j24 : ∀ (S : q_S) (H : Heap) (locs : List Loc) (ls : Array Slot), wX1_turnsWell_b24 Q S → q_P D g A s.heap S H locs → q_l ls 4 [] → W p l e rmX1_turnsWell s m args below meth c H locs 0 0 (MQ below (va_Qi Q (q_B D g A) A) args s rmX1_turnsWell.cells rmX1_turnsWell.slots A) (F0 m 24 ls []) := by
    intro S H locs ls h hp hl
    unfold wX1_turnsWell_b24 at h
    refine lv_iconst (v := 1) hx hb dX1_turnsWell_24 (by decide) ?_
    refine lv_goto (tgt := 29) hx hb dX1_turnsWell_25 (by decide) ?_
    exact q_zret C hp hr h dX1_turnsWell_29
  unfold wX1_turnsWell at h
  replace h := h.2
  refine lv_aload_n hx hb dX1_turnsWell_0 rfl (q_at hl 0 rfl) ?_
  refine lv_iload_n hx hb dX1_turnsWell_1 rfl (q_at hl 2 rfl) ?_
  refine q_finI0 C hp (q_runV (As := [.int x2]) (rest := []) C hp (RX1_rowAt l D g _ a0 x2 _ h _) (cwV 1 C.2.2.2.2.1 gX1_turnsWell_X1_rowAt rfl rfl rfl (by decide +kernel) ⟨(Nat.le_of_ble_eq_true rfl), (Nat.le_of_ble_eq_true rfl)⟩) h.1 rfl rfl hl.1.1 rfl (Nat.le_of_ble_eq_true rfl) dX1_turnsWell_2 ⟨(Nat.le_of_ble_eq_true rfl), (Nat.le_of_ble_eq_true rfl)⟩) rfl rfl (fun v_2 S_1 H locs h hp => ?_)
  refine q_istn (lv' := [(3, .int v_2), (0, .ref a0), (1, .ref a1), (2, .int x2)]) hx hb dX1_turnsWell_5 rfl hl (by decide) rfl (fun ls hl => ?_)
  refine lv_aload_n hx hb dX1_turnsWell_6 rfl (q_at hl 2 rfl) ?_
  refine lv_iload_n hx hb dX1_turnsWell_7 rfl (q_at hl 0 rfl) ?_
  refine lv_iconst (v := 1) hx hb dX1_turnsWell_8 (by decide) ?_
  refine lv_isub hx hb dX1_turnsWell_9 ?_
  refine q_finI0 C hp (q_runV (As := [.int (v_2 - (1 : Int32))]) (rest := []) C hp (RX4_isLongRest l D g _ a1 (v_2 - (1 : Int32)) _ h _) (cwV 1 C.2.2.2.2.1 gX1_turnsWell_X4_isLongRest rfl rfl rfl (by decide +kernel) ⟨(Nat.le_of_ble_eq_true rfl), (Nat.le_of_ble_eq_true rfl)⟩) h.1 rfl rfl hl.1.1 rfl (Nat.le_of_ble_eq_true rfl) dX1_turnsWell_10 ⟨(Nat.le_of_ble_eq_true rfl), (Nat.le_of_ble_eq_true rfl)⟩) rfl rfl (fun v_4 S_3 H locs h hp => ?_)
  refine lv_if_ne (tgt := 24) hx hb dX1_turnsWell_13 (by decide) (fun c_5 => ?_) (fun c_5 => ?_)
  · replace h := h.1 c_5
    exact j24 _ _ _ _ h hp (q_sub hl [] rfl)
  · replace h := h.2 c_5
    refine lv_aload_n hx hb dX1_turnsWell_16 rfl (q_at hl 2 rfl) ?_
    refine lv_iload_n hx hb dX1_turnsWell_17 rfl (q_at hl 0 rfl) ?_
    refine q_finI0 C hp (q_runV (As := [.int v_2]) (rest := []) C hp (RX4_isLongRest l D g _ a1 v_2 _ h _) (cwV 1 C.2.2.2.2.1 gX1_turnsWell_X4_isLongRest rfl rfl rfl (by decide +kernel) ⟨(Nat.le_of_ble_eq_true rfl), (Nat.le_of_ble_eq_true rfl)⟩) h.1 rfl rfl hl.1.1 rfl (Nat.le_of_ble_eq_true rfl) dX1_turnsWell_18 ⟨(Nat.le_of_ble_eq_true rfl), (Nat.le_of_ble_eq_true rfl)⟩) rfl rfl (fun v_7 S_6 H locs h hp => ?_)
    refine lv_if_eq (tgt := 28) hx hb dX1_turnsWell_21 (by decide) (fun c_8 => ?_) (fun c_8 => ?_)
    · replace h := h.1 c_8
      refine lv_iconst (v := 0) hx hb dX1_turnsWell_28 (by decide) ?_
      exact q_zret C hp hr h dX1_turnsWell_29
    · replace h := h.2 c_8
      exact j24 _ _ _ _ h hp (q_sub hl [] rfl)
theorem kX1_addPage_26 : Cond.fieldLink RX1 26 (TX1 2).1 (TX1 2).2.1 (TX1 2).2.2.1 ∈ wsX1_addPage := by decide +kernel
theorem iX1_addPage_X1 : ∀ w ∈ u_ws RX1 TX1 4, w ∈ wsX1_addPage := by decide +kernel
set_option maxHeartbeats 4000000 in
set_option maxRecDepth 100000 in
theorem RX1_addPage (l : Launch) (D : va_G) (g : q_A) (S : q_S) (a0 : Nat) (a1 : Nat) (x2 : Int32) (x3 : Int32) (Q : Int32 → q_S → Prop) (h : wX1_addPage a0 a1 x2 x3 Q S) : q_Mi l yX1_addPage wsX1_addPage rmX1_addPage D g [.ref a0, .ref a1, .int x2, .int x3] S Q := by
  refine q_Mi.of (cc := cX1_addPage) (nL := 6) (rt := .int) (by decide +kernel) rfl (Nat.le_of_ble_eq_true rfl) rfl ?_
  intro p e s m args below meth c ls A C hr hnm hp hl
  have C : q_X p s m args meth c cX1_addPage 6 RX1 wsX1_addPage D g A := C
  have hx := C.1
  have hb := C.2.1
  have hl : q_l ls 6 [(0, .ref a0), (1, .ref a1), (2, .int x2), (3, .int x3)] := hl
  have j71 : ∀ (a0 : Nat) (x2 : Int32) (x3 : Int32) (S : q_S) (H : Heap) (locs : List Loc) (ls : Array Slot), wX1_addPage_b71 Q a0 x2 x3 S → q_P D g A s.heap S H locs → q_l ls 6 [(0, .ref a0), (2, .int x2), (3, .int x3)] → W p l e rmX1_addPage s m args below meth c H locs 0 0 (MQ below (va_Qi Q (q_B D g A) A) args s rmX1_addPage.cells rmX1_addPage.slots A) (F0 m 71 ls []) := by
    intro a0 x2 x3 S H locs ls h hp hl
    unfold wX1_addPage_b71 at h
    refine lv_aload_n hx hb dX1_addPage_71 rfl (q_at hl 0 rfl) ?_
    refine lv_iload_n hx hb dX1_addPage_72 rfl (q_at hl 1 rfl) ?_
    refine lv_iload_n hx hb dX1_addPage_73 rfl (q_at hl 2 rfl) ?_
    refine lv_iconst (v := 0) hx hb dX1_addPage_74 (by decide) ?_
    refine q_finV0 C hp (q_runV (As := [.int x2, .int x3, .int (0 : Int32)]) (rest := []) C hp (RX1_putPage l D g _ a0 x2 x3 (0 : Int32) _ h _) (cwV 3 C.2.2.2.2.1 gX1_addPage_X1_putPage rfl rfl rfl (by decide +kernel) ⟨(Nat.le_of_ble_eq_true rfl), (Nat.le_of_ble_eq_true rfl)⟩) h.1 rfl rfl hl.1.1 rfl (Nat.le_of_ble_eq_true rfl) dX1_addPage_75 ⟨(Nat.le_of_ble_eq_true rfl), (Nat.le_of_ble_eq_true rfl)⟩) rfl rfl (fun S_1 H locs h hp => ?_)
    refine lv_iload_n hx hb dX1_addPage_78 rfl (q_at hl 2 rfl) ?_
    exact q_iret C hp hr h dX1_addPage_79
  have j28 : ∀ (n : Nat), ∀ (a0 : Nat) (a1 : Nat) (x2 : Int32) (x3 : Int32) (x5 : Int32) (S : q_S) (H : Heap) (locs : List Loc) (ls : Array Slot), lX1_addPage_b28 Q n a0 a1 x2 x3 x5 S → q_P D g A s.heap S H locs → q_l ls 6 [(0, .ref a0), (1, .ref a1), (2, .int x2), (3, .int x3), (5, .int x5)] → W p l e rmX1_addPage s m args below meth c H locs 0 0 (MQ below (va_Qi Q (q_B D g A) A) args s rmX1_addPage.cells rmX1_addPage.slots A) (F0 m 28 ls []) := by
    intro n
    induction n with
    | zero => intro a0 a1 x2 x3 x5 S H locs ls h; exact absurd h (fun h => h)
    | succ n ih28 =>
      intro a0 a1 x2 x3 x5 S H locs ls h hp hl
      have h : wX1_addPage_b28 Q (lX1_addPage_b28 Q n) a0 a1 x2 x3 x5 S := h
      unfold wX1_addPage_b28 at h
      refine lv_iload hx hb dX1_addPage_28 (q_at hl 4 rfl) ?_
      refine lv_iconst (v := 1) hx hb dX1_addPage_30 (by decide) ?_
      refine lv_icmp_lt (tgt := 71) hx hb dX1_addPage_31 (by decide) (fun c_2 => ?_) (fun c_2 => ?_)
      · replace h := h.1 c_2
        exact j71 a0 x2 x3 _ _ _ _ h hp (q_sub hl [0, 2, 3] rfl)
      · replace h := h.2 c_2
        refine lv_iload hx hb dX1_addPage_34 (q_at hl 4 rfl) ?_
        refine lv_iload_n hx hb dX1_addPage_36 rfl (q_at hl 3 rfl) ?_
        refine lv_iconst (v := 2) hx hb dX1_addPage_37 (by decide) ?_
        refine lv_isub hx hb dX1_addPage_38 ?_
        refine lv_icmp_lt (tgt := 71) hx hb dX1_addPage_39 (by decide) (fun c_3 => ?_) (fun c_3 => ?_)
        · replace h := h.1 c_3
          exact j71 a0 x2 x3 _ _ _ _ h hp (q_sub hl [0, 2, 3] rfl)
        · replace h := h.2 c_3
          refine lv_aload_n hx hb dX1_addPage_42 rfl (q_at hl 0 rfl) ?_
          refine lv_aload_n hx hb dX1_addPage_43 rfl (q_at hl 1 rfl) ?_
          refine lv_iload_n hx hb dX1_addPage_44 rfl (q_at hl 2 rfl) ?_
          refine lv_iload hx hb dX1_addPage_45 (q_at hl 4 rfl) ?_
          refine lv_iadd hx hb dX1_addPage_47 ?_
          refine q_finI0 C hp (q_runV (As := [.ref a1, .int (x2 + x5)]) (rest := []) C hp (RX1_turnsWell l D g _ a0 a1 (x2 + x5) _ h _) (cwV 2 C.2.2.2.2.1 gX1_addPage_X1_turnsWell rfl rfl rfl (by decide +kernel) ⟨(Nat.le_of_ble_eq_true rfl), (Nat.le_of_ble_eq_true rfl)⟩) h.1 rfl rfl hl.1.1 rfl (Nat.le_of_ble_eq_true rfl) dX1_addPage_48 ⟨(Nat.le_of_ble_eq_true rfl), (Nat.le_of_ble_eq_true rfl)⟩) rfl rfl (fun v_5 S_4 H locs h hp => ?_)
          refine lv_if_eq (tgt := 65) hx hb dX1_addPage_51 (by decide) (fun c_6 => ?_) (fun c_6 => ?_)
          · replace h := h.1 c_6
            refine q_inc (x := x5) (v := (x5 + (-1 : Int32))) (lv' := [(5, .int (x5 + (-1 : Int32))), (0, .ref a0), (1, .ref a1), (2, .int x2), (3, .int x3)]) hx hb dX1_addPage_65 hl (k := 4) rfl rfl (by decide) rfl (fun ls hl => ?_)
            refine lv_goto (tgt := 28) hx hb dX1_addPage_68 (by decide) ?_
            exact ih28 a0 a1 x2 x3 (x5 + (-1 : Int32)) _ _ _ _ h hp (q_sub hl [1, 2, 3, 4, 0] rfl)
          · replace h := h.2 c_6
            refine lv_aload_n hx hb dX1_addPage_54 rfl (q_at hl 0 rfl) ?_
            refine lv_iload_n hx hb dX1_addPage_55 rfl (q_at hl 2 rfl) ?_
            refine lv_iload hx hb dX1_addPage_56 (q_at hl 4 rfl) ?_
            refine lv_iconst (v := 1) hx hb dX1_addPage_58 (by decide) ?_
            refine q_finV0 C hp (q_runV (As := [.int x2, .int x5, .int (1 : Int32)]) (rest := []) C hp (RX1_putPage l D g _ a0 x2 x5 (1 : Int32) _ h _) (cwV 3 C.2.2.2.2.1 gX1_addPage_X1_putPage rfl rfl rfl (by decide +kernel) ⟨(Nat.le_of_ble_eq_true rfl), (Nat.le_of_ble_eq_true rfl)⟩) h.1 rfl rfl hl.1.1 rfl (Nat.le_of_ble_eq_true rfl) dX1_addPage_59 ⟨(Nat.le_of_ble_eq_true rfl), (Nat.le_of_ble_eq_true rfl)⟩) rfl rfl (fun S_7 H locs h hp => ?_)
            refine lv_iload hx hb dX1_addPage_62 (q_at hl 4 rfl) ?_
            exact q_iret C hp hr h dX1_addPage_64
  unfold wX1_addPage at h
  replace h := h.2
  refine lv_aload_n hx hb dX1_addPage_0 rfl (q_at hl 0 rfl) ?_
  refine q_rGI C hp h rfl iX1_addPage_X1 (by decide) kX1_addPage_26 dX1_addPage_1 (fun v_8 h => ?_)
  refine lv_iload_n hx hb dX1_addPage_4 rfl (q_at hl 2 rfl) ?_
  refine lv_isub hx hb dX1_addPage_5 ?_
  refine q_ist (lv' := [(4, .int (v_8 - x2)), (0, .ref a0), (1, .ref a1), (2, .int x2), (3, .int x3)]) hx hb dX1_addPage_6 hl (by decide) rfl (fun ls hl => ?_)
  refine lv_iload hx hb dX1_addPage_8 (q_at hl 0 rfl) ?_
  refine lv_iload_n hx hb dX1_addPage_10 rfl (q_at hl 4 rfl) ?_
  refine lv_icmp_gt (tgt := 25) hx hb dX1_addPage_11 (by decide) (fun c_9 => ?_) (fun c_9 => ?_)
  · replace h := h.1 c_9
    refine lv_iload_n hx hb dX1_addPage_25 rfl (q_at hl 4 rfl) ?_
    refine q_ist (lv' := [(5, .int x3), (4, .int (v_8 - x2)), (0, .ref a0), (1, .ref a1), (2, .int x2), (3, .int x3)]) hx hb dX1_addPage_26 hl (by decide) rfl (fun ls hl => ?_)
    exact j28 q_fuel a0 a1 x2 x3 x3 _ _ _ _ h hp (q_sub hl [2, 3, 4, 5, 0] rfl)
  · replace h := h.2 c_9
    refine lv_aload_n hx hb dX1_addPage_14 rfl (q_at hl 1 rfl) ?_
    refine lv_iload_n hx hb dX1_addPage_15 rfl (q_at hl 3 rfl) ?_
    refine lv_iload hx hb dX1_addPage_16 (q_at hl 0 rfl) ?_
    refine lv_iconst (v := 1) hx hb dX1_addPage_18 (by decide) ?_
    refine q_finV0 C hp (q_runV (As := [.int x2, .int (v_8 - x2), .int (1 : Int32)]) (rest := []) C hp (RX1_putPage l D g _ a0 x2 (v_8 - x2) (1 : Int32) _ h _) (cwV 3 C.2.2.2.2.1 gX1_addPage_X1_putPage rfl rfl rfl (by decide +kernel) ⟨(Nat.le_of_ble_eq_true rfl), (Nat.le_of_ble_eq_true rfl)⟩) h.1 rfl rfl hl.1.1 rfl (Nat.le_of_ble_eq_true rfl) dX1_addPage_19 ⟨(Nat.le_of_ble_eq_true rfl), (Nat.le_of_ble_eq_true rfl)⟩) rfl rfl (fun S_10 H locs h hp => ?_)
    refine lv_iload hx hb dX1_addPage_22 (q_at hl 0 rfl) ?_
    exact q_iret C hp hr h dX1_addPage_24
theorem kX1_arrange_22 : Cond.fieldLink RX1 22 (TX1 3).1 (TX1 3).2.1 (TX1 3).2.2.1 ∈ wsX1_arrange := by decide +kernel
theorem kX1_arrange_26 : Cond.fieldLink RX1 26 (TX1 2).1 (TX1 2).2.1 (TX1 2).2.2.1 ∈ wsX1_arrange := by decide +kernel
theorem iX1_arrange_X1 : ∀ w ∈ u_ws RX1 TX1 4, w ∈ wsX1_arrange := by decide +kernel
set_option maxHeartbeats 4000000 in
set_option maxRecDepth 100000 in
theorem RX1_arrange (l : Launch) (D : va_G) (g : q_A) (S : q_S) (a0 : Nat) (a1 : Nat) (x2 : Int32) (x3 : Int32) (Q : q_S → Prop) (h : wX1_arrange a0 a1 x2 x3 Q S) : q_Mv l yX1_arrange wsX1_arrange rmX1_arrange D g [.ref a0, .ref a1, .int x2, .int x3] S Q := by
  refine q_Mv.of (cc := cX1_arrange) (nL := 6) (by decide +kernel) rfl (Nat.le_of_ble_eq_true rfl) rfl ?_
  intro p e s m args below meth c ls A C hr hnm hp hl
  have C : q_X p s m args meth c cX1_arrange 6 RX1 wsX1_arrange D g A := C
  have hx := C.1
  have hb := C.2.1
  have hl : q_l ls 6 [(0, .ref a0), (1, .ref a1), (2, .int x2), (3, .int x3)] := hl
  have j46 : ∀ (k17 : Nat → Nat → Int32 → Int32 → Int32 → q_S → Prop) (ih17 : ∀ (a0 : Nat) (a1 : Nat) (x3 : Int32) (x4 : Int32) (x5 : Int32) (S : q_S) (H : Heap) (locs : List Loc) (ls : Array Slot), k17 a0 a1 x3 x4 x5 S → q_P D g A s.heap S H locs → q_l ls 6 [(0, .ref a0), (1, .ref a1), (3, .int x3), (4, .int x4), (5, .int x5)] → W p l e rmX1_arrange s m args below meth c H locs 0 0 (MQ below (va_Qv Q (q_B D g A) A) args s rmX1_arrange.cells rmX1_arrange.slots A) (F0 m 17 ls [])) (a0 : Nat) (a1 : Nat) (x3 : Int32) (x4 : Int32) (x5 : Int32) (S : q_S) (H : Heap) (locs : List Loc) (ls : Array Slot), wX1_arrange_b46 Q k17 a0 a1 x3 x4 x5 S → q_P D g A s.heap S H locs → q_l ls 6 [(0, .ref a0), (1, .ref a1), (3, .int x3), (4, .int x4), (5, .int x5)] → W p l e rmX1_arrange s m args below meth c H locs 0 0 (MQ below (va_Qv Q (q_B D g A) A) args s rmX1_arrange.cells rmX1_arrange.slots A) (F0 m 46 ls []) := by
    intro k17 ih17 a0 a1 x3 x4 x5 S H locs ls h hp hl
    unfold wX1_arrange_b46 at h
    refine q_inc (x := x5) (v := (x5 + (1 : Int32))) (lv' := [(5, .int (x5 + (1 : Int32))), (0, .ref a0), (1, .ref a1), (3, .int x3), (4, .int x4)]) hx hb dX1_arrange_46 hl (k := 4) rfl rfl (by decide) rfl (fun ls hl => ?_)
    refine lv_goto (tgt := 17) hx hb dX1_arrange_49 (by decide) ?_
    exact ih17 a0 a1 x3 x4 (x5 + (1 : Int32)) _ _ _ _ h hp (q_sub hl [1, 2, 3, 4, 0] rfl)
  have j17 : ∀ (n : Nat), ∀ (a0 : Nat) (a1 : Nat) (x3 : Int32) (x4 : Int32) (x5 : Int32) (S : q_S) (H : Heap) (locs : List Loc) (ls : Array Slot), lX1_arrange_b17 Q n a0 a1 x3 x4 x5 S → q_P D g A s.heap S H locs → q_l ls 6 [(0, .ref a0), (1, .ref a1), (3, .int x3), (4, .int x4), (5, .int x5)] → W p l e rmX1_arrange s m args below meth c H locs 0 0 (MQ below (va_Qv Q (q_B D g A) A) args s rmX1_arrange.cells rmX1_arrange.slots A) (F0 m 17 ls []) := by
    intro n
    induction n with
    | zero => intro a0 a1 x3 x4 x5 S H locs ls h; exact absurd h (fun h => h)
    | succ n ih17 =>
      intro a0 a1 x3 x4 x5 S H locs ls h hp hl
      have h : wX1_arrange_b17 Q (lX1_arrange_b17 Q n) a0 a1 x3 x4 x5 S := h
      unfold wX1_arrange_b17 at h
      refine lv_iload hx hb dX1_arrange_17 (q_at hl 4 rfl) ?_
      refine lv_aload_n hx hb dX1_arrange_19 rfl (q_at hl 0 rfl) ?_
      refine q_rGI C hp h rfl iX1_arrange_X1 (by decide) kX1_arrange_26 dX1_arrange_20 (fun v_1 h => ?_)
      refine lv_icmp_ge (tgt := 52) hx hb dX1_arrange_23 (by decide) (fun c_2 => ?_) (fun c_2 => ?_)
      · replace h := h.1 c_2
        exact q_vret C hp hr h dX1_arrange_52
      · replace h := h.2 c_2
        refine lv_iload hx hb dX1_arrange_26 (q_at hl 4 rfl) ?_
        refine lv_iload hx hb dX1_arrange_28 (q_at hl 3 rfl) ?_
        refine lv_icmp_lt (tgt := 46) hx hb dX1_arrange_30 (by decide) (fun c_3 => ?_) (fun c_3 => ?_)
        · replace h := h.1 c_3
          exact j46 (lX1_arrange_b17 Q n) ih17 a0 a1 x3 x4 x5 _ _ _ _ h hp (q_sub hl [0, 1, 2, 3, 4] rfl)
        · replace h := h.2 c_3
          refine lv_iload hx hb dX1_arrange_33 (q_at hl 4 rfl) ?_
          refine lv_aload_n hx hb dX1_arrange_35 rfl (q_at hl 0 rfl) ?_
          refine lv_aload_n hx hb dX1_arrange_36 rfl (q_at hl 1 rfl) ?_
          refine lv_iload hx hb dX1_arrange_37 (q_at hl 4 rfl) ?_
          refine lv_iload_n hx hb dX1_arrange_39 rfl (q_at hl 2 rfl) ?_
          refine q_finI0 C hp (q_runV (As := [.ref a1, .int x5, .int x3]) (rest := [.int x5]) C hp (RX1_addPage l D g _ a0 a1 x5 x3 _ h _) (cwV 3 C.2.2.2.2.1 gX1_arrange_X1_addPage rfl rfl rfl (by decide +kernel) ⟨(Nat.le_of_ble_eq_true rfl), (Nat.le_of_ble_eq_true rfl)⟩) h.1 rfl rfl hl.1.1 rfl (Nat.le_of_ble_eq_true rfl) dX1_arrange_40 ⟨(Nat.le_of_ble_eq_true rfl), (Nat.le_of_ble_eq_true rfl)⟩) rfl rfl (fun v_5 S_4 H locs h hp => ?_)
          refine lv_iadd hx hb dX1_arrange_43 ?_
          refine q_ist (lv' := [(4, .int (x5 + v_5)), (0, .ref a0), (1, .ref a1), (3, .int x3), (5, .int x5)]) hx hb dX1_arrange_44 hl (by decide) rfl (fun ls hl => ?_)
          exact j46 (lX1_arrange_b17 Q n) ih17 a0 a1 x3 (x5 + v_5) x5 _ _ _ _ h hp (q_sub hl [1, 2, 3, 0, 4] rfl)
  unfold wX1_arrange at h
  replace h := h.2
  refine lv_aload_n hx hb dX1_arrange_0 rfl (q_at hl 0 rfl) ?_
  refine lv_aload_n hx hb dX1_arrange_1 rfl (q_at hl 1 rfl) ?_
  refine lv_iload_n hx hb dX1_arrange_2 rfl (q_at hl 2 rfl) ?_
  refine q_finV0 C hp (q_runV (As := [.ref a1, .int x2]) (rest := []) C hp (RX1_fillSystems l D g _ a0 a1 x2 _ h _) (cwV 2 C.2.2.2.2.1 gX1_arrange_X1_fillSystems rfl rfl rfl (by decide +kernel) ⟨(Nat.le_of_ble_eq_true rfl), (Nat.le_of_ble_eq_true rfl)⟩) h.1 rfl rfl hl.1.1 rfl (Nat.le_of_ble_eq_true rfl) dX1_arrange_3 ⟨(Nat.le_of_ble_eq_true rfl), (Nat.le_of_ble_eq_true rfl)⟩) rfl rfl (fun S_6 H locs h hp => ?_)
  refine lv_aload_n hx hb dX1_arrange_6 rfl (q_at hl 0 rfl) ?_
  refine lv_iconst (v := 0) hx hb dX1_arrange_7 (by decide) ?_
  refine q_rP C hp h tyX1 tyX1_ok nmX1 rfl iX1_arrange_X1 (by decide) kX1_arrange_22 rfl rfl rfl rfl dX1_arrange_8 (fun S_7 H locs h hp => ?_)
  refine lv_iconst (v := 0) hx hb dX1_arrange_11 (by decide) ?_
  refine q_ist (lv' := [(4, .int (0 : Int32)), (0, .ref a0), (1, .ref a1), (2, .int x2), (3, .int x3)]) hx hb dX1_arrange_12 hl (by decide) rfl (fun ls hl => ?_)
  refine lv_iconst (v := 0) hx hb dX1_arrange_14 (by decide) ?_
  refine q_ist (lv' := [(5, .int (0 : Int32)), (4, .int (0 : Int32)), (0, .ref a0), (1, .ref a1), (2, .int x2), (3, .int x3)]) hx hb dX1_arrange_15 hl (by decide) rfl (fun ls hl => ?_)
  exact j17 q_fuel a0 a1 x3 (0 : Int32) (0 : Int32) _ _ _ _ h hp (q_sub hl [2, 3, 5, 1, 0] rfl)
theorem kX1_figure_15 : Cond.fieldLink RX1 15 (TX1 1).1 (TX1 1).2.1 (TX1 1).2.2.1 ∈ wsX1_figure := by decide +kernel
theorem kX1_figure_22 : Cond.fieldLink RX1 22 (TX1 3).1 (TX1 3).2.1 (TX1 3).2.2.1 ∈ wsX1_figure := by decide +kernel
theorem iX1_figure_X1 : ∀ w ∈ u_ws RX1 TX1 4, w ∈ wsX1_figure := by decide +kernel
set_option maxHeartbeats 4000000 in
set_option maxRecDepth 100000 in
theorem RX1_figure (l : Launch) (D : va_G) (g : q_A) (S : q_S) (a0 : Nat) (x1 : Int32) (x2 : Int32) (Q : Int32 → q_S → Prop) (h : wX1_figure a0 x1 x2 Q S) : q_Mi l yX1_figure wsX1_figure rmX1_figure D g [.ref a0, .int x1, .int x2] S Q := by
  refine q_Mi.of (cc := cX1_figure) (nL := 3) (rt := .int) (by decide +kernel) rfl (Nat.le_of_ble_eq_true rfl) rfl ?_
  intro p e s m args below meth c ls A C hr hnm hp hl
  have C : q_X p s m args meth c cX1_figure 3 RX1 wsX1_figure D g A := C
  have hx := C.1
  have hb := C.2.1
  have hl : q_l ls 3 [(0, .ref a0), (1, .int x1), (2, .int x2)] := hl
  unfold wX1_figure at h
  replace h := h.2
  refine lv_iload_n hx hb dX1_figure_0 rfl (q_at hl 1 rfl) ?_
  refine lv_if_lt (tgt := 21) hx hb dX1_figure_1 (by decide) (fun c_1 => ?_) (fun c_1 => ?_)
  · replace h := h.1 c_1
    refine lv_bipush (v := (-100)) hx hb dX1_figure_21 (by decide) ?_
    exact q_iret C hp hr h dX1_figure_23
  · replace h := h.2 c_1
    refine lv_iload_n hx hb dX1_figure_4 rfl (q_at hl 1 rfl) ?_
    refine lv_aload_n hx hb dX1_figure_5 rfl (q_at hl 0 rfl) ?_
    refine q_rGI C hp h rfl iX1_figure_X1 (by decide) kX1_figure_22 dX1_figure_6 (fun v_2 h => ?_)
    refine lv_icmp_ge (tgt := 21) hx hb dX1_figure_9 (by decide) (fun c_3 => ?_) (fun c_3 => ?_)
    · replace h := h.1 c_3
      refine lv_bipush (v := (-100)) hx hb dX1_figure_21 (by decide) ?_
      exact q_iret C hp hr h dX1_figure_23
    · replace h := h.2 c_3
      refine lv_iload_n hx hb dX1_figure_12 rfl (q_at hl 2 rfl) ?_
      refine lv_if_lt (tgt := 21) hx hb dX1_figure_13 (by decide) (fun c_4 => ?_) (fun c_4 => ?_)
      · replace h := h.1 c_4
        refine lv_bipush (v := (-100)) hx hb dX1_figure_21 (by decide) ?_
        exact q_iret C hp hr h dX1_figure_23
      · replace h := h.2 c_4
        refine lv_iload_n hx hb dX1_figure_16 rfl (q_at hl 2 rfl) ?_
        refine lv_iconst (v := 4) hx hb dX1_figure_17 (by decide) ?_
        refine lv_icmp_lt (tgt := 24) hx hb dX1_figure_18 (by decide) (fun c_5 => ?_) (fun c_5 => ?_)
        · replace h := h.1 c_5
          refine lv_aload_n hx hb dX1_figure_24 rfl (q_at hl 0 rfl) ?_
          refine q_rGR C hp h rfl iX1_figure_X1 (by decide) kX1_figure_15 dX1_figure_25 (fun r_6 h => ?_)
          refine lv_iload_n hx hb dX1_figure_28 rfl (q_at hl 1 rfl) ?_
          refine lv_iconst (v := 4) hx hb dX1_figure_29 (by decide) ?_
          refine lv_imul hx hb dX1_figure_30 ?_
          refine lv_iload_n hx hb dX1_figure_31 rfl (q_at hl 2 rfl) ?_
          refine lv_iadd hx hb dX1_figure_32 ?_
          refine q_rLI C hp h dX1_figure_33 (fun v_7 h => ?_)
          exact q_iret C hp hr h dX1_figure_34
        · replace h := h.2 c_5
          refine lv_bipush (v := (-100)) hx hb dX1_figure_21 (by decide) ?_
          exact q_iret C hp hr h dX1_figure_23
