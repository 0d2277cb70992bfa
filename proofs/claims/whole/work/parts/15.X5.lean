set_option maxRecDepth 20000 in
theorem ggX5_init_X2_init : GoodIn wsX5_init wsX2_init := goodIn_r _ [13, 14, 2, 3, 15, 16, 17, 18, 19, 20, 26] (by decide +kernel) (by decide +kernel)
set_option maxRecDepth 20000 in
theorem gX5_init_X2_init : GoodIn wsX5_init (wsX2_init) := ggX5_init_X2_init
theorem dX5_init_0 : decode cX5_init 0 = .ok (.aload_n 0, 1) := by decide +kernel
theorem dX5_init_1 : decode cX5_init 1 = .ok (.invokespecial 3, 3) := by decide +kernel
theorem dX5_init_4 : decode cX5_init 4 = .ok (.aload_n 0, 1) := by decide +kernel
theorem dX5_init_5 : decode cX5_init 5 = .ok (.bipush 6, 2) := by decide +kernel
theorem dX5_init_7 : decode cX5_init 7 = .ok (.anewarray 9, 3) := by decide +kernel
theorem dX5_init_10 : decode cX5_init 10 = .ok (.putfield 11, 3) := by decide +kernel
theorem dX5_init_13 : decode cX5_init 13 = .ok (.aload_n 0, 1) := by decide +kernel
theorem dX5_init_14 : decode cX5_init 14 = .ok (.new 17, 3) := by decide +kernel
theorem dX5_init_17 : decode cX5_init 17 = .ok (.dup, 1) := by decide +kernel
theorem dX5_init_18 : decode cX5_init 18 = .ok (.invokespecial 19, 3) := by decide +kernel
theorem dX5_init_21 : decode cX5_init 21 = .ok (.putfield 20, 3) := by decide +kernel
theorem dX5_init_24 : decode cX5_init 24 = .ok (.aload_n 0, 1) := by decide +kernel
theorem dX5_init_25 : decode cX5_init 25 = .ok (.bipush 8, 2) := by decide +kernel
theorem dX5_init_27 : decode cX5_init 27 = .ok (.putfield 24, 3) := by decide +kernel
theorem dX5_init_30 : decode cX5_init 30 = .ok (.return_, 1) := by decide +kernel
set_option maxRecDepth 20000 in
theorem ggX5_addVoice_X6_init : GoodIn wsX5_addVoice wsX6_init := goodIn_r _ [8, 9, 10, 11, 12, 13, 14, 15, 16, 17, 18, 19, 20, 21, 22, 33, 34, 28, 29, 30, 31, 32] (by decide +kernel) (by decide +kernel)
set_option maxRecDepth 20000 in
theorem gX5_addVoice_X6_init : GoodIn wsX5_addVoice (wsX6_init) := ggX5_addVoice_X6_init
theorem dX5_addVoice_0 : decode cX5_addVoice 0 = .ok (.aload_n 0, 1) := by decide +kernel
theorem dX5_addVoice_1 : decode cX5_addVoice 1 = .ok (.getfield 28, 3) := by decide +kernel
theorem dX5_addVoice_4 : decode cX5_addVoice 4 = .ok (.bipush 6, 2) := by decide +kernel
theorem dX5_addVoice_6 : decode cX5_addVoice 6 = .ok (.if_icmp .lt 6, 3) := by decide +kernel
theorem dX5_addVoice_9 : decode cX5_addVoice 9 = .ok (.bipush (-104), 2) := by decide +kernel
theorem dX5_addVoice_11 : decode cX5_addVoice 11 = .ok (.ireturn, 1) := by decide +kernel
theorem dX5_addVoice_12 : decode cX5_addVoice 12 = .ok (.aload_n 0, 1) := by decide +kernel
theorem dX5_addVoice_13 : decode cX5_addVoice 13 = .ok (.getfield 28, 3) := by decide +kernel
theorem dX5_addVoice_16 : decode cX5_addVoice 16 = .ok (.istore_n 1, 1) := by decide +kernel
theorem dX5_addVoice_17 : decode cX5_addVoice 17 = .ok (.aload_n 0, 1) := by decide +kernel
theorem dX5_addVoice_18 : decode cX5_addVoice 18 = .ok (.getfield 11, 3) := by decide +kernel
theorem dX5_addVoice_21 : decode cX5_addVoice 21 = .ok (.iload_n 1, 1) := by decide +kernel
theorem dX5_addVoice_22 : decode cX5_addVoice 22 = .ok (.new 9, 3) := by decide +kernel
theorem dX5_addVoice_25 : decode cX5_addVoice 25 = .ok (.dup, 1) := by decide +kernel
theorem dX5_addVoice_26 : decode cX5_addVoice 26 = .ok (.iload_n 1, 1) := by decide +kernel
theorem dX5_addVoice_27 : decode cX5_addVoice 27 = .ok (.invokespecial 31, 3) := by decide +kernel
theorem dX5_addVoice_30 : decode cX5_addVoice 30 = .ok (.aastore, 1) := by decide +kernel
theorem dX5_addVoice_31 : decode cX5_addVoice 31 = .ok (.aload_n 0, 1) := by decide +kernel
theorem dX5_addVoice_32 : decode cX5_addVoice 32 = .ok (.dup, 1) := by decide +kernel
theorem dX5_addVoice_33 : decode cX5_addVoice 33 = .ok (.getfield 28, 3) := by decide +kernel
theorem dX5_addVoice_36 : decode cX5_addVoice 36 = .ok (.iconst 1, 1) := by decide +kernel
theorem dX5_addVoice_37 : decode cX5_addVoice 37 = .ok (.iadd, 1) := by decide +kernel
theorem dX5_addVoice_38 : decode cX5_addVoice 38 = .ok (.putfield 28, 3) := by decide +kernel
theorem dX5_addVoice_41 : decode cX5_addVoice 41 = .ok (.iload_n 1, 1) := by decide +kernel
theorem dX5_addVoice_42 : decode cX5_addVoice 42 = .ok (.ireturn, 1) := by decide +kernel
theorem dX5_voiceAt_0 : decode cX5_voiceAt 0 = .ok (.iload_n 1, 1) := by decide +kernel
theorem dX5_voiceAt_1 : decode cX5_voiceAt 1 = .ok (.ifCond .lt 18, 3) := by decide +kernel
theorem dX5_voiceAt_4 : decode cX5_voiceAt 4 = .ok (.iload_n 1, 1) := by decide +kernel
theorem dX5_voiceAt_5 : decode cX5_voiceAt 5 = .ok (.bipush 6, 2) := by decide +kernel
theorem dX5_voiceAt_7 : decode cX5_voiceAt 7 = .ok (.if_icmp .ge 12, 3) := by decide +kernel
theorem dX5_voiceAt_10 : decode cX5_voiceAt 10 = .ok (.aload_n 0, 1) := by decide +kernel
theorem dX5_voiceAt_11 : decode cX5_voiceAt 11 = .ok (.getfield 11, 3) := by decide +kernel
theorem dX5_voiceAt_14 : decode cX5_voiceAt 14 = .ok (.iload_n 1, 1) := by decide +kernel
theorem dX5_voiceAt_15 : decode cX5_voiceAt 15 = .ok (.aaload, 1) := by decide +kernel
theorem dX5_voiceAt_16 : decode cX5_voiceAt 16 = .ok (.goto 4, 3) := by decide +kernel
theorem dX5_voiceAt_19 : decode cX5_voiceAt 19 = .ok (.aconst_null, 1) := by decide +kernel
theorem dX5_voiceAt_20 : decode cX5_voiceAt 20 = .ok (.areturn, 1) := by decide +kernel
set_option maxRecDepth 20000 in
theorem ggX5_partOf_X5_voiceAt : GoodIn wsX5_partOf wsX5_voiceAt := goodIn_r _ [5, 6, 12, 13, 14, 15, 16] (by decide +kernel) (by decide +kernel)
set_option maxRecDepth 20000 in
theorem gX5_partOf_X5_voiceAt : GoodIn wsX5_partOf (wsV RX5 34 RX5 yX5_voiceAt wsX5_voiceAt) := goodIn_app (goodIn_of _ (by decide +kernel)) ggX5_partOf_X5_voiceAt
theorem dX5_partOf_0 : decode cX5_partOf 0 = .ok (.aload_n 0, 1) := by decide +kernel
theorem dX5_partOf_1 : decode cX5_partOf 1 = .ok (.iload_n 1, 1) := by decide +kernel
theorem dX5_partOf_2 : decode cX5_partOf 2 = .ok (.invokevirtual 34, 3) := by decide +kernel
theorem dX5_partOf_5 : decode cX5_partOf 5 = .ok (.astore_n 2, 1) := by decide +kernel
theorem dX5_partOf_6 : decode cX5_partOf 6 = .ok (.aload_n 2, 1) := by decide +kernel
theorem dX5_partOf_7 : decode cX5_partOf 7 = .ok (.ifnonnull 7, 3) := by decide +kernel
theorem dX5_partOf_10 : decode cX5_partOf 10 = .ok (.aconst_null, 1) := by decide +kernel
theorem dX5_partOf_11 : decode cX5_partOf 11 = .ok (.goto 7, 3) := by decide +kernel
theorem dX5_partOf_14 : decode cX5_partOf 14 = .ok (.aload_n 2, 1) := by decide +kernel
theorem dX5_partOf_15 : decode cX5_partOf 15 = .ok (.getfield 38, 3) := by decide +kernel
theorem dX5_partOf_18 : decode cX5_partOf 18 = .ok (.areturn, 1) := by decide +kernel
theorem dX5_hasBar_0 : decode cX5_hasBar 0 = .ok (.iload_n 1, 1) := by decide +kernel
theorem dX5_hasBar_1 : decode cX5_hasBar 1 = .ok (.ifCond .lt 15, 3) := by decide +kernel
theorem dX5_hasBar_4 : decode cX5_hasBar 4 = .ok (.iload_n 1, 1) := by decide +kernel
theorem dX5_hasBar_5 : decode cX5_hasBar 5 = .ok (.aload_n 0, 1) := by decide +kernel
theorem dX5_hasBar_6 : decode cX5_hasBar 6 = .ok (.getfield 42, 3) := by decide +kernel
theorem dX5_hasBar_9 : decode cX5_hasBar 9 = .ok (.if_icmp .ge 7, 3) := by decide +kernel
theorem dX5_hasBar_12 : decode cX5_hasBar 12 = .ok (.iconst 1, 1) := by decide +kernel
theorem dX5_hasBar_13 : decode cX5_hasBar 13 = .ok (.goto 4, 3) := by decide +kernel
theorem dX5_hasBar_16 : decode cX5_hasBar 16 = .ok (.iconst 0, 1) := by decide +kernel
theorem dX5_hasBar_17 : decode cX5_hasBar 17 = .ok (.ireturn, 1) := by decide +kernel
set_option maxRecDepth 20000 in
theorem ggX5_resize_X5_voiceAt : GoodIn wsX5_resize wsX5_voiceAt := goodIn_r _ [7, 8, 33, 34, 35, 36, 37] (by decide +kernel) (by decide +kernel)
set_option maxRecDepth 20000 in
theorem gX5_resize_X5_voiceAt : GoodIn wsX5_resize (wsV RX5 34 RX5 yX5_voiceAt wsX5_voiceAt) := goodIn_app (goodIn_of _ (by decide +kernel)) ggX5_resize_X5_voiceAt
set_option maxRecDepth 20000 in
theorem ggX5_resize_X3_clearFrom : GoodIn wsX5_resize wsX3_clearFrom := goodIn_r _ [13, 14, 15, 16, 17, 18, 43, 44] (by decide +kernel) (by decide +kernel)
set_option maxRecDepth 20000 in
theorem gX5_resize_X3_clearFrom : GoodIn wsX5_resize (wsV RX5 49 RX3 yX3_clearFrom wsX3_clearFrom) := goodIn_app (goodIn_of _ (by decide +kernel)) ggX5_resize_X3_clearFrom
set_option maxRecDepth 20000 in
theorem ggX5_resize_X2_clearFrom : GoodIn wsX5_resize wsX2_clearFrom := goodIn_r _ [23, 24, 15, 16, 17, 25, 26, 27, 22, 28, 29, 30, 31, 32, 45] (by decide +kernel) (by decide +kernel)
set_option maxRecDepth 20000 in
theorem gX5_resize_X2_clearFrom : GoodIn wsX5_resize (wsV RX5 55 RX2 yX2_clearFrom wsX2_clearFrom) := goodIn_app (goodIn_of _ (by decide +kernel)) ggX5_resize_X2_clearFrom
theorem dX5_resize_0 : decode cX5_resize 0 = .ok (.aload_n 0, 1) := by decide +kernel
theorem dX5_resize_1 : decode cX5_resize 1 = .ok (.getfield 42, 3) := by decide +kernel
theorem dX5_resize_4 : decode cX5_resize 4 = .ok (.istore_n 2, 1) := by decide +kernel
theorem dX5_resize_5 : decode cX5_resize 5 = .ok (.iconst 0, 1) := by decide +kernel
theorem dX5_resize_6 : decode cX5_resize 6 = .ok (.istore_n 3, 1) := by decide +kernel
theorem dX5_resize_7 : decode cX5_resize 7 = .ok (.iload_n 3, 1) := by decide +kernel
theorem dX5_resize_8 : decode cX5_resize 8 = .ok (.bipush 6, 2) := by decide +kernel
theorem dX5_resize_10 : decode cX5_resize 10 = .ok (.if_icmp .ge 31, 3) := by decide +kernel
theorem dX5_resize_13 : decode cX5_resize 13 = .ok (.aload_n 0, 1) := by decide +kernel
theorem dX5_resize_14 : decode cX5_resize 14 = .ok (.iload_n 3, 1) := by decide +kernel
theorem dX5_resize_15 : decode cX5_resize 15 = .ok (.invokevirtual 34, 3) := by decide +kernel
theorem dX5_resize_18 : decode cX5_resize 18 = .ok (.astore 4, 2) := by decide +kernel
theorem dX5_resize_20 : decode cX5_resize 20 = .ok (.aload 4, 2) := by decide +kernel
theorem dX5_resize_22 : decode cX5_resize 22 = .ok (.ifnull 13, 3) := by decide +kernel
theorem dX5_resize_25 : decode cX5_resize 25 = .ok (.aload 4, 2) := by decide +kernel
theorem dX5_resize_27 : decode cX5_resize 27 = .ok (.getfield 45, 3) := by decide +kernel
theorem dX5_resize_30 : decode cX5_resize 30 = .ok (.iload_n 1, 1) := by decide +kernel
theorem dX5_resize_31 : decode cX5_resize 31 = .ok (.iload_n 2, 1) := by decide +kernel
theorem dX5_resize_32 : decode cX5_resize 32 = .ok (.invokevirtual 49, 3) := by decide +kernel
theorem dX5_resize_35 : decode cX5_resize 35 = .ok (.iinc 3 1, 3) := by decide +kernel
theorem dX5_resize_38 : decode cX5_resize 38 = .ok (.goto (-31), 3) := by decide +kernel
theorem dX5_resize_41 : decode cX5_resize 41 = .ok (.aload_n 0, 1) := by decide +kernel
theorem dX5_resize_42 : decode cX5_resize 42 = .ok (.getfield 20, 3) := by decide +kernel
theorem dX5_resize_45 : decode cX5_resize 45 = .ok (.iload_n 1, 1) := by decide +kernel
theorem dX5_resize_46 : decode cX5_resize 46 = .ok (.iload_n 2, 1) := by decide +kernel
theorem dX5_resize_47 : decode cX5_resize 47 = .ok (.invokevirtual 55, 3) := by decide +kernel
theorem dX5_resize_50 : decode cX5_resize 50 = .ok (.aload_n 0, 1) := by decide +kernel
theorem dX5_resize_51 : decode cX5_resize 51 = .ok (.iload_n 1, 1) := by decide +kernel
theorem dX5_resize_52 : decode cX5_resize 52 = .ok (.putfield 42, 3) := by decide +kernel
theorem dX5_resize_55 : decode cX5_resize 55 = .ok (.iload_n 2, 1) := by decide +kernel
theorem dX5_resize_56 : decode cX5_resize 56 = .ok (.ireturn, 1) := by decide +kernel
set_option maxRecDepth 20000 in
theorem ggX5_noteTotal_X5_voiceAt : GoodIn wsX5_noteTotal wsX5_voiceAt := goodIn_r _ [5, 6, 18, 19, 20, 21, 22] (by decide +kernel) (by decide +kernel)
set_option maxRecDepth 20000 in
theorem gX5_noteTotal_X5_voiceAt : GoodIn wsX5_noteTotal (wsV RX5 34 RX5 yX5_voiceAt wsX5_voiceAt) := goodIn_app (goodIn_of _ (by decide +kernel)) ggX5_noteTotal_X5_voiceAt
set_option maxRecDepth 20000 in
theorem ggX5_noteTotal_X3_total : GoodIn wsX5_noteTotal wsX3_total := goodIn_r _ [11, 12, 23, 24] (by decide +kernel) (by decide +kernel)
set_option maxRecDepth 20000 in
theorem gX5_noteTotal_X3_total : GoodIn wsX5_noteTotal (wsV RX5 56 RX3 yX3_total wsX3_total) := goodIn_app (goodIn_of _ (by decide +kernel)) ggX5_noteTotal_X3_total
theorem dX5_noteTotal_0 : decode cX5_noteTotal 0 = .ok (.iconst 0, 1) := by decide +kernel
theorem dX5_noteTotal_1 : decode cX5_noteTotal 1 = .ok (.istore_n 1, 1) := by decide +kernel
theorem dX5_noteTotal_2 : decode cX5_noteTotal 2 = .ok (.iconst 0, 1) := by decide +kernel
theorem dX5_noteTotal_3 : decode cX5_noteTotal 3 = .ok (.istore_n 2, 1) := by decide +kernel
theorem dX5_noteTotal_4 : decode cX5_noteTotal 4 = .ok (.iload_n 2, 1) := by decide +kernel
theorem dX5_noteTotal_5 : decode cX5_noteTotal 5 = .ok (.bipush 6, 2) := by decide +kernel
theorem dX5_noteTotal_7 : decode cX5_noteTotal 7 = .ok (.if_icmp .ge 29, 3) := by decide +kernel
theorem dX5_noteTotal_10 : decode cX5_noteTotal 10 = .ok (.aload_n 0, 1) := by decide +kernel
theorem dX5_noteTotal_11 : decode cX5_noteTotal 11 = .ok (.iload_n 2, 1) := by decide +kernel
theorem dX5_noteTotal_12 : decode cX5_noteTotal 12 = .ok (.invokevirtual 34, 3) := by decide +kernel
theorem dX5_noteTotal_15 : decode cX5_noteTotal 15 = .ok (.astore_n 3, 1) := by decide +kernel
theorem dX5_noteTotal_16 : decode cX5_noteTotal 16 = .ok (.aload_n 3, 1) := by decide +kernel
theorem dX5_noteTotal_17 : decode cX5_noteTotal 17 = .ok (.ifnull 13, 3) := by decide +kernel
theorem dX5_noteTotal_20 : decode cX5_noteTotal 20 = .ok (.iload_n 1, 1) := by decide +kernel
theorem dX5_noteTotal_21 : decode cX5_noteTotal 21 = .ok (.aload_n 3, 1) := by decide +kernel
theorem dX5_noteTotal_22 : decode cX5_noteTotal 22 = .ok (.getfield 45, 3) := by decide +kernel
theorem dX5_noteTotal_25 : decode cX5_noteTotal 25 = .ok (.invokevirtual 56, 3) := by decide +kernel
theorem dX5_noteTotal_28 : decode cX5_noteTotal 28 = .ok (.iadd, 1) := by decide +kernel
theorem dX5_noteTotal_29 : decode cX5_noteTotal 29 = .ok (.istore_n 1, 1) := by decide +kernel
theorem dX5_noteTotal_30 : decode cX5_noteTotal 30 = .ok (.iinc 2 1, 3) := by decide +kernel
theorem dX5_noteTotal_33 : decode cX5_noteTotal 33 = .ok (.goto (-29), 3) := by decide +kernel
theorem dX5_noteTotal_36 : decode cX5_noteTotal 36 = .ok (.iload_n 1, 1) := by decide +kernel
theorem dX5_noteTotal_37 : decode cX5_noteTotal 37 = .ok (.ireturn, 1) := by decide +kernel
set_option maxRecDepth 20000 in
theorem ggX5_partTotal_X5_partOf : GoodIn wsX5_partTotal wsX5_partOf := goodIn_r _ [5, 6, 7, 8, 4, 9, 10, 11, 12, 13, 14, 15, 16, 17, 18, 19, 20] (by decide +kernel) (by decide +kernel)
set_option maxRecDepth 20000 in
theorem gX5_partTotal_X5_partOf : GoodIn wsX5_partTotal (wsV RX5 60 RX5 yX5_partOf wsX5_partOf) := goodIn_app (goodIn_of _ (by decide +kernel)) ggX5_partTotal_X5_partOf
theorem dX5_partTotal_0 : decode cX5_partTotal 0 = .ok (.iconst 0, 1) := by decide +kernel
theorem dX5_partTotal_1 : decode cX5_partTotal 1 = .ok (.istore_n 1, 1) := by decide +kernel
theorem dX5_partTotal_2 : decode cX5_partTotal 2 = .ok (.iconst 0, 1) := by decide +kernel
theorem dX5_partTotal_3 : decode cX5_partTotal 3 = .ok (.istore_n 2, 1) := by decide +kernel
theorem dX5_partTotal_4 : decode cX5_partTotal 4 = .ok (.iload_n 2, 1) := by decide +kernel
theorem dX5_partTotal_5 : decode cX5_partTotal 5 = .ok (.bipush 6, 2) := by decide +kernel
theorem dX5_partTotal_7 : decode cX5_partTotal 7 = .ok (.if_icmp .ge 20, 3) := by decide +kernel
theorem dX5_partTotal_10 : decode cX5_partTotal 10 = .ok (.aload_n 0, 1) := by decide +kernel
theorem dX5_partTotal_11 : decode cX5_partTotal 11 = .ok (.iload_n 2, 1) := by decide +kernel
theorem dX5_partTotal_12 : decode cX5_partTotal 12 = .ok (.invokevirtual 60, 3) := by decide +kernel
theorem dX5_partTotal_15 : decode cX5_partTotal 15 = .ok (.ifnull 6, 3) := by decide +kernel
theorem dX5_partTotal_18 : decode cX5_partTotal 18 = .ok (.iinc 1 1, 3) := by decide +kernel
theorem dX5_partTotal_21 : decode cX5_partTotal 21 = .ok (.iinc 2 1, 3) := by decide +kernel
theorem dX5_partTotal_24 : decode cX5_partTotal 24 = .ok (.goto (-20), 3) := by decide +kernel
theorem dX5_partTotal_27 : decode cX5_partTotal 27 = .ok (.iload_n 1, 1) := by decide +kernel
theorem dX5_partTotal_28 : decode cX5_partTotal 28 = .ok (.ireturn, 1) := by decide +kernel
set_option maxRecDepth 20000 in
theorem ggX5_cueFor_X3_size : GoodIn wsX5_cueFor wsX3_size := goodIn_r _ [6, 7, 27, 28] (by decide +kernel) (by decide +kernel)
set_option maxRecDepth 20000 in
theorem gX5_cueFor_X3_size : GoodIn wsX5_cueFor (wsV RX5 64 RX3 yX3_size wsX3_size) := goodIn_app (goodIn_of _ (by decide +kernel)) ggX5_cueFor_X3_size
set_option maxRecDepth 20000 in
theorem ggX5_cueFor_X5_emptyUpTo : GoodIn wsX5_cueFor wsX5_emptyUpTo := goodIn_r _ [11, 2, 3, 4, 5, 6, 7, 17, 18, 19, 20, 21, 27, 28] (by decide +kernel) (by decide +kernel)
set_option maxRecDepth 20000 in
theorem gX5_cueFor_X5_emptyUpTo : GoodIn wsX5_cueFor (va_wsS RX5 68 yX5_emptyUpTo wsX5_emptyUpTo) := goodIn_app (goodIn_of _ (by decide +kernel)) ggX5_cueFor_X5_emptyUpTo
set_option maxRecDepth 20000 in
theorem ggX5_cueFor_X5_voiceAt : GoodIn wsX5_cueFor wsX5_voiceAt := goodIn_r _ [15, 16, 22, 23, 24, 25, 26] (by decide +kernel) (by decide +kernel)
set_option maxRecDepth 20000 in
theorem gX5_cueFor_X5_voiceAt : GoodIn wsX5_cueFor (wsV RX5 34 RX5 yX5_voiceAt wsX5_voiceAt) := goodIn_app (goodIn_of _ (by decide +kernel)) ggX5_cueFor_X5_voiceAt
theorem dX5_cueFor_0 : decode cX5_cueFor 0 = .ok (.aload_n 1, 1) := by decide +kernel
theorem dX5_cueFor_1 : decode cX5_cueFor 1 = .ok (.getfield 45, 3) := by decide +kernel
theorem dX5_cueFor_4 : decode cX5_cueFor 4 = .ok (.iload_n 2, 1) := by decide +kernel
theorem dX5_cueFor_5 : decode cX5_cueFor 5 = .ok (.invokevirtual 64, 3) := by decide +kernel
theorem dX5_cueFor_8 : decode cX5_cueFor 8 = .ok (.ifCond .ne 20, 3) := by decide +kernel
theorem dX5_cueFor_11 : decode cX5_cueFor 11 = .ok (.aload_n 1, 1) := by decide +kernel
theorem dX5_cueFor_12 : decode cX5_cueFor 12 = .ok (.getfield 45, 3) := by decide +kernel
theorem dX5_cueFor_15 : decode cX5_cueFor 15 = .ok (.iload_n 2, 1) := by decide +kernel
theorem dX5_cueFor_16 : decode cX5_cueFor 16 = .ok (.iconst 1, 1) := by decide +kernel
theorem dX5_cueFor_17 : decode cX5_cueFor 17 = .ok (.iadd, 1) := by decide +kernel
theorem dX5_cueFor_18 : decode cX5_cueFor 18 = .ok (.invokevirtual 64, 3) := by decide +kernel
theorem dX5_cueFor_21 : decode cX5_cueFor 21 = .ok (.ifCond .le 7, 3) := by decide +kernel
theorem dX5_cueFor_24 : decode cX5_cueFor 24 = .ok (.iconst 1, 1) := by decide +kernel
theorem dX5_cueFor_25 : decode cX5_cueFor 25 = .ok (.goto 4, 3) := by decide +kernel
theorem dX5_cueFor_28 : decode cX5_cueFor 28 = .ok (.iconst 0, 1) := by decide +kernel
theorem dX5_cueFor_29 : decode cX5_cueFor 29 = .ok (.istore_n 3, 1) := by decide +kernel
theorem dX5_cueFor_30 : decode cX5_cueFor 30 = .ok (.iload_n 3, 1) := by decide +kernel
theorem dX5_cueFor_31 : decode cX5_cueFor 31 = .ok (.ifCond .eq 15, 3) := by decide +kernel
theorem dX5_cueFor_34 : decode cX5_cueFor 34 = .ok (.aload_n 1, 1) := by decide +kernel
theorem dX5_cueFor_35 : decode cX5_cueFor 35 = .ok (.iload_n 2, 1) := by decide +kernel
theorem dX5_cueFor_36 : decode cX5_cueFor 36 = .ok (.invokestatic 68, 3) := by decide +kernel
theorem dX5_cueFor_39 : decode cX5_cueFor 39 = .ok (.aload_n 0, 1) := by decide +kernel
theorem dX5_cueFor_40 : decode cX5_cueFor 40 = .ok (.getfield 24, 3) := by decide +kernel
theorem dX5_cueFor_43 : decode cX5_cueFor 43 = .ok (.if_icmp .ge 5, 3) := by decide +kernel
theorem dX5_cueFor_46 : decode cX5_cueFor 46 = .ok (.aconst_null, 1) := by decide +kernel
theorem dX5_cueFor_47 : decode cX5_cueFor 47 = .ok (.areturn, 1) := by decide +kernel
theorem dX5_cueFor_48 : decode cX5_cueFor 48 = .ok (.aconst_null, 1) := by decide +kernel
theorem dX5_cueFor_49 : decode cX5_cueFor 49 = .ok (.astore 4, 2) := by decide +kernel
theorem dX5_cueFor_51 : decode cX5_cueFor 51 = .ok (.iconst 0, 1) := by decide +kernel
theorem dX5_cueFor_52 : decode cX5_cueFor 52 = .ok (.istore 5, 2) := by decide +kernel
theorem dX5_cueFor_54 : decode cX5_cueFor 54 = .ok (.iconst 0, 1) := by decide +kernel
theorem dX5_cueFor_55 : decode cX5_cueFor 55 = .ok (.istore 6, 2) := by decide +kernel
theorem dX5_cueFor_57 : decode cX5_cueFor 57 = .ok (.iload 6, 2) := by decide +kernel
theorem dX5_cueFor_59 : decode cX5_cueFor 59 = .ok (.bipush 6, 2) := by decide +kernel
theorem dX5_cueFor_61 : decode cX5_cueFor 61 = .ok (.if_icmp .ge 51, 3) := by decide +kernel
theorem dX5_cueFor_64 : decode cX5_cueFor 64 = .ok (.aload_n 0, 1) := by decide +kernel
theorem dX5_cueFor_65 : decode cX5_cueFor 65 = .ok (.iload 6, 2) := by decide +kernel
theorem dX5_cueFor_67 : decode cX5_cueFor 67 = .ok (.invokevirtual 34, 3) := by decide +kernel
theorem dX5_cueFor_70 : decode cX5_cueFor 70 = .ok (.astore 7, 2) := by decide +kernel
theorem dX5_cueFor_72 : decode cX5_cueFor 72 = .ok (.aload 7, 2) := by decide +kernel
theorem dX5_cueFor_74 : decode cX5_cueFor 74 = .ok (.ifnull 32, 3) := by decide +kernel
theorem dX5_cueFor_77 : decode cX5_cueFor 77 = .ok (.aload 7, 2) := by decide +kernel
theorem dX5_cueFor_79 : decode cX5_cueFor 79 = .ok (.getfield 45, 3) := by decide +kernel
theorem dX5_cueFor_82 : decode cX5_cueFor 82 = .ok (.iload_n 2, 1) := by decide +kernel
theorem dX5_cueFor_83 : decode cX5_cueFor 83 = .ok (.invokevirtual 64, 3) := by decide +kernel
theorem dX5_cueFor_86 : decode cX5_cueFor 86 = .ok (.iload 5, 2) := by decide +kernel
theorem dX5_cueFor_88 : decode cX5_cueFor 88 = .ok (.if_icmp .le 18, 3) := by decide +kernel
theorem dX5_cueFor_91 : decode cX5_cueFor 91 = .ok (.aload 7, 2) := by decide +kernel
theorem dX5_cueFor_93 : decode cX5_cueFor 93 = .ok (.astore 4, 2) := by decide +kernel
theorem dX5_cueFor_95 : decode cX5_cueFor 95 = .ok (.aload 7, 2) := by decide +kernel
theorem dX5_cueFor_97 : decode cX5_cueFor 97 = .ok (.getfield 45, 3) := by decide +kernel
theorem dX5_cueFor_100 : decode cX5_cueFor 100 = .ok (.iload_n 2, 1) := by decide +kernel
theorem dX5_cueFor_101 : decode cX5_cueFor 101 = .ok (.invokevirtual 64, 3) := by decide +kernel
theorem dX5_cueFor_104 : decode cX5_cueFor 104 = .ok (.istore 5, 2) := by decide +kernel
theorem dX5_cueFor_106 : decode cX5_cueFor 106 = .ok (.iinc 6 1, 3) := by decide +kernel
theorem dX5_cueFor_109 : decode cX5_cueFor 109 = .ok (.goto (-52), 3) := by decide +kernel
theorem dX5_cueFor_112 : decode cX5_cueFor 112 = .ok (.aload 4, 2) := by decide +kernel
theorem dX5_cueFor_114 : decode cX5_cueFor 114 = .ok (.areturn, 1) := by decide +kernel
set_option maxRecDepth 20000 in
theorem ggX5_emptyUpTo_X3_size : GoodIn wsX5_emptyUpTo wsX3_size := goodIn_r _ [5, 6, 12, 13] (by decide +kernel) (by decide +kernel)
set_option maxRecDepth 20000 in
theorem gX5_emptyUpTo_X3_size : GoodIn wsX5_emptyUpTo (wsV RX5 64 RX3 yX3_size wsX3_size) := goodIn_app (goodIn_of _ (by decide +kernel)) ggX5_emptyUpTo_X3_size
theorem dX5_emptyUpTo_0 : decode cX5_emptyUpTo 0 = .ok (.iconst 0, 1) := by decide +kernel
theorem dX5_emptyUpTo_1 : decode cX5_emptyUpTo 1 = .ok (.istore_n 2, 1) := by decide +kernel
theorem dX5_emptyUpTo_2 : decode cX5_emptyUpTo 2 = .ok (.iload_n 1, 1) := by decide +kernel
theorem dX5_emptyUpTo_3 : decode cX5_emptyUpTo 3 = .ok (.istore_n 3, 1) := by decide +kernel
theorem dX5_emptyUpTo_4 : decode cX5_emptyUpTo 4 = .ok (.iload_n 3, 1) := by decide +kernel
theorem dX5_emptyUpTo_5 : decode cX5_emptyUpTo 5 = .ok (.ifCond .lt 23, 3) := by decide +kernel
theorem dX5_emptyUpTo_8 : decode cX5_emptyUpTo 8 = .ok (.aload_n 0, 1) := by decide +kernel
theorem dX5_emptyUpTo_9 : decode cX5_emptyUpTo 9 = .ok (.getfield 45, 3) := by decide +kernel
theorem dX5_emptyUpTo_12 : decode cX5_emptyUpTo 12 = .ok (.iload_n 3, 1) := by decide +kernel
theorem dX5_emptyUpTo_13 : decode cX5_emptyUpTo 13 = .ok (.invokevirtual 64, 3) := by decide +kernel
theorem dX5_emptyUpTo_16 : decode cX5_emptyUpTo 16 = .ok (.ifCond .ne 12, 3) := by decide +kernel
theorem dX5_emptyUpTo_19 : decode cX5_emptyUpTo 19 = .ok (.iinc 2 1, 3) := by decide +kernel
theorem dX5_emptyUpTo_22 : decode cX5_emptyUpTo 22 = .ok (.iinc 3 (-1), 3) := by decide +kernel
theorem dX5_emptyUpTo_25 : decode cX5_emptyUpTo 25 = .ok (.goto (-21), 3) := by decide +kernel
theorem dX5_emptyUpTo_28 : decode cX5_emptyUpTo 28 = .ok (.iload_n 2, 1) := by decide +kernel
theorem dX5_emptyUpTo_29 : decode cX5_emptyUpTo 29 = .ok (.ireturn, 1) := by decide +kernel
theorem kX5_init_11 : Cond.fieldLink RX5 11 (TX5 0).1 (TX5 0).2.1 (TX5 0).2.2.1 ∈ wsX5_init := by decide +kernel
theorem kX5_init_20 : Cond.fieldLink RX5 20 (TX5 1).1 (TX5 1).2.1 (TX5 1).2.2.1 ∈ wsX5_init := by decide +kernel
theorem kX5_init_24 : Cond.fieldLink RX5 24 (TX5 4).1 (TX5 4).2.1 (TX5 4).2.2.1 ∈ wsX5_init := by decide +kernel
theorem iX5_init_X2 : ∀ w ∈ u_ws RX2 TX2 1, w ∈ wsX5_init := by decide +kernel
theorem iX5_init_X5 : ∀ w ∈ u_ws RX5 TX5 5, w ∈ wsX5_init := by decide +kernel
theorem kcX5_init_17 : Cond.classLink RX5 17 RX2 ∈ wsX5_init := by decide +kernel
theorem kcX5_init_9 : Cond.classLink RX5 9 RX6 ∈ wsX5_init := by decide +kernel
theorem kqX5_init : Cond.code objectInit ⟨#[0xb1]⟩ 1 none ∈ wsX5_init := by decide +kernel
theorem kiX5_init_X2 : Cond.initialized RX2 ∈ wsX5_init := by decide +kernel
theorem ksX5_init_X2_init : Cond.initialized yX2_init.cls ∈ wsX5_init := by decide +kernel
theorem kpX5_init : Cond.instanceMethod objectInit ∈ wsX5_init := by decide +kernel
theorem knX5_init_X2_init : Cond.instanceMethod yX2_init ∈ wsX5_init := by decide +kernel
theorem ktX5_init_X2 : Cond.instantiable RX2 1 ∈ wsX5_init := by decide +kernel
theorem klX5_init_X2_init : Cond.methodLink RX5 19 yX2_init ∈ wsX5_init := by decide +kernel
theorem koX5_init : Cond.methodLink RX5 3 objectInit ∈ wsX5_init := by decide +kernel
set_option maxHeartbeats 4000000 in
set_option maxRecDepth 100000 in
theorem RX5_init (l : Launch) (D : va_G) (g : q_A) (S : q_S) (a0 : Nat) (Q : q_S → Prop) (h : wX5_init a0 Q S) : q_Mv l yX5_init wsX5_init rmX5_init D g [.ref a0] S Q := by
  refine q_Mv.of (cc := cX5_init) (nL := 1) (by decide +kernel) rfl (Nat.le_of_ble_eq_true rfl) rfl ?_
  intro p e s m args below meth c ls A C hr hnm hp hl
  have C : q_X p s m args meth c cX5_init 1 RX5 wsX5_init D g A := C
  have hx := C.1
  have hb := C.2.1
  have hl : q_l ls 1 [(0, .ref a0)] := hl
  unfold wX5_init at h
  refine lv_aload_n hx hb dX5_init_0 rfl (q_at hl 0 rfl) ?_
  refine q_objI C koX5_init kpX5_init kqX5_init hl.1.1 dX5_init_1 (Nat.le_of_ble_eq_true rfl) (Nat.le_of_ble_eq_true rfl) ?_
  refine lv_aload_n hx hb dX5_init_4 rfl (q_at hl 0 rfl) ?_
  refine lv_bipush (v := 6) hx hb dX5_init_5 (by decide) ?_
  refine q_rNV (N' := 6) C hp h kcX5_init_9 (by decide) (by decide) (by decide) (Nat.le_of_ble_eq_true rfl) (Nat.le_of_ble_eq_true rfl) dX5_init_7 (fun q_1 S_2 H h hp => ?_)
  refine W.widen (k := 1) (n := 6) (Nat.le_of_ble_eq_true rfl) (Nat.le_of_ble_eq_true rfl) ?_
  refine q_fP C hp h hnm tyX5 tyX5_ok nmX5 rfl iX5_init_X5 (by decide) kX5_init_11 rfl rfl rfl rfl rfl dX5_init_10 (fun S_3 H locs h hp => ?_)
  refine lv_aload_n hx hb dX5_init_13 rfl (q_at hl 0 rfl) ?_
  refine q_rNO (N := 1) C hp h tyX2 tyX2_ok rfl iX5_init_X2 kcX5_init_17 ktX5_init_X2 kiX5_init_X2 (fun j hj => by match j, hj with | 0, _ => rfl | j + 1, hj => exact absurd hj (by omega)) (Nat.le_of_ble_eq_true rfl) (Nat.le_of_ble_eq_true rfl) dX5_init_14 (fun q_4 S_5 H h hp => ?_)
  refine W.widen (k := 2) (n := 7) (Nat.le_of_ble_eq_true rfl) (Nat.le_of_ble_eq_true rfl) ?_
  refine lv_dup hx hb dX5_init_17 rfl ?_
  refine q_finV C hp (q_runI (As := []) (rest := [.ref q_4, .ref a0]) C hp (RX2_init l D g _ q_4 _ h _) (cwI 0 C.2.2.2.2.1 ggX5_init_X2_init rfl rfl rfl (C.2.2.2.2.1 _ ksX5_init_X2_init) (C.2.2.2.2.1 _ klX5_init_X2_init) (C.2.2.2.2.1 _ knX5_init_X2_init) rfl (by decide +kernel) ⟨(Nat.le_of_ble_eq_true rfl), (Nat.le_of_ble_eq_true rfl)⟩) rfl hl.1.1 rfl (Nat.le_of_ble_eq_true rfl) dX5_init_18 ⟨(Nat.le_of_ble_eq_true rfl), (Nat.le_of_ble_eq_true rfl)⟩) (fun S_6 H locs h hp => ?_)
  refine W.widen (k := 3) (n := 207) (Nat.le_of_ble_eq_true rfl) (Nat.le_of_ble_eq_true rfl) ?_
  refine q_fP C hp h hnm tyX5 tyX5_ok nmX5 rfl iX5_init_X5 (by decide) kX5_init_20 rfl rfl rfl rfl rfl dX5_init_21 (fun S_7 H locs h hp => ?_)
  refine lv_aload_n hx hb dX5_init_24 rfl (q_at hl 0 rfl) ?_
  refine lv_bipush (v := 8) hx hb dX5_init_25 (by decide) ?_
  refine q_rP C hp h tyX5 tyX5_ok nmX5 rfl iX5_init_X5 (by decide) kX5_init_24 rfl rfl rfl rfl dX5_init_27 (fun S_8 H locs h hp => ?_)
  refine W.widen (k := rmX5_init.cells) (n := rmX5_init.slots) (Nat.le_of_ble_eq_true rfl) (Nat.le_of_ble_eq_true rfl) ?_
  exact q_vret C hp hr h dX5_init_30
theorem kX5_addVoice_11 : Cond.fieldLink RX5 11 (TX5 0).1 (TX5 0).2.1 (TX5 0).2.2.1 ∈ wsX5_addVoice := by decide +kernel
theorem kX5_addVoice_28 : Cond.fieldLink RX5 28 (TX5 2).1 (TX5 2).2.1 (TX5 2).2.2.1 ∈ wsX5_addVoice := by decide +kernel
theorem iX5_addVoice_X5 : ∀ w ∈ u_ws RX5 TX5 5, w ∈ wsX5_addVoice := by decide +kernel
theorem iX5_addVoice_X6 : ∀ w ∈ u_ws RX6 TX6 5, w ∈ wsX5_addVoice := by decide +kernel
theorem kcX5_addVoice_9 : Cond.classLink RX5 9 RX6 ∈ wsX5_addVoice := by decide +kernel
theorem kiX5_addVoice_X6 : Cond.initialized RX6 ∈ wsX5_addVoice := by decide +kernel
theorem ksX5_addVoice_X6_init : Cond.initialized yX6_init.cls ∈ wsX5_addVoice := by decide +kernel
theorem knX5_addVoice_X6_init : Cond.instanceMethod yX6_init ∈ wsX5_addVoice := by decide +kernel
theorem ktX5_addVoice_X6 : Cond.instantiable RX6 5 ∈ wsX5_addVoice := by decide +kernel
theorem klX5_addVoice_X6_init : Cond.methodLink RX5 31 yX6_init ∈ wsX5_addVoice := by decide +kernel
set_option maxHeartbeats 4000000 in
set_option maxRecDepth 100000 in
theorem RX5_addVoice (l : Launch) (D : va_G) (g : q_A) (S : q_S) (a0 : Nat) (Q : Int32 → q_S → Prop) (h : wX5_addVoice a0 Q S) : q_Mi l yX5_addVoice wsX5_addVoice rmX5_addVoice D g [.ref a0] S Q := by
  refine q_Mi.of (cc := cX5_addVoice) (nL := 2) (rt := .int) (by decide +kernel) rfl (Nat.le_of_ble_eq_true rfl) rfl ?_
  intro p e s m args below meth c ls A C hr hnm hp hl
  have C : q_X p s m args meth c cX5_addVoice 2 RX5 wsX5_addVoice D g A := C
  have hx := C.1
  have hb := C.2.1
  have hl : q_l ls 2 [(0, .ref a0)] := hl
  unfold wX5_addVoice at h
  replace h := h.2
  refine lv_aload_n hx hb dX5_addVoice_0 rfl (q_at hl 0 rfl) ?_
  refine q_rGI C hp h rfl iX5_addVoice_X5 (by decide) kX5_addVoice_28 dX5_addVoice_1 (fun v_1 h => ?_)
  refine lv_bipush (v := 6) hx hb dX5_addVoice_4 (by decide) ?_
  refine lv_icmp_lt (tgt := 12) hx hb dX5_addVoice_6 (by decide) (fun c_2 => ?_) (fun c_2 => ?_)
  · replace h := h.1 c_2
    refine lv_aload_n hx hb dX5_addVoice_12 rfl (q_at hl 0 rfl) ?_
    refine q_rGI C hp h rfl iX5_addVoice_X5 (by decide) kX5_addVoice_28 dX5_addVoice_13 (fun v_3 h => ?_)
    refine q_istn (lv' := [(1, .int v_3), (0, .ref a0)]) hx hb dX5_addVoice_16 rfl hl (by decide) rfl (fun ls hl => ?_)
    refine lv_aload_n hx hb dX5_addVoice_17 rfl (q_at hl 1 rfl) ?_
    refine q_rGR C hp h rfl iX5_addVoice_X5 (by decide) kX5_addVoice_11 dX5_addVoice_18 (fun r_4 h => ?_)
    refine lv_iload_n hx hb dX5_addVoice_21 rfl (q_at hl 0 rfl) ?_
    refine q_rNO (N := 5) C hp h tyX6 tyX6_ok rfl iX5_addVoice_X6 kcX5_addVoice_9 ktX5_addVoice_X6 kiX5_addVoice_X6 (fun j hj => by match j, hj with | 0, _ => rfl | 1, _ => rfl | 2, _ => rfl | 3, _ => rfl | 4, _ => rfl | j + 5, hj => exact absurd hj (by omega)) (Nat.le_of_ble_eq_true rfl) (Nat.le_of_ble_eq_true rfl) dX5_addVoice_22 (fun q_5 S_6 H h hp => ?_)
    refine W.widen (k := 1) (n := 5) (Nat.le_of_ble_eq_true rfl) (Nat.le_of_ble_eq_true rfl) ?_
    refine lv_dup hx hb dX5_addVoice_25 rfl ?_
    refine lv_iload_n hx hb dX5_addVoice_26 rfl (q_at hl 0 rfl) ?_
    refine q_finV C hp (q_runI (As := [.int v_3]) (rest := [.ref q_5, .int v_3, .ref r_4]) C hp (RX6_init l D g _ q_5 v_3 _ h _) (cwI 1 C.2.2.2.2.1 ggX5_addVoice_X6_init rfl rfl rfl (C.2.2.2.2.1 _ ksX5_addVoice_X6_init) (C.2.2.2.2.1 _ klX5_addVoice_X6_init) (C.2.2.2.2.1 _ knX5_addVoice_X6_init) rfl (by decide +kernel) ⟨(Nat.le_of_ble_eq_true rfl), (Nat.le_of_ble_eq_true rfl)⟩) rfl hl.1.1 rfl (Nat.le_of_ble_eq_true rfl) dX5_addVoice_27 ⟨(Nat.le_of_ble_eq_true rfl), (Nat.le_of_ble_eq_true rfl)⟩) (fun S_7 H locs h hp => ?_)
    refine W.widen (k := 4) (n := 1327) (Nat.le_of_ble_eq_true rfl) (Nat.le_of_ble_eq_true rfl) ?_
    refine q_rSV C hp h dX5_addVoice_30 (fun S_8 H locs h hp => ?_)
    refine lv_aload_n hx hb dX5_addVoice_31 rfl (q_at hl 1 rfl) ?_
    refine lv_dup hx hb dX5_addVoice_32 rfl ?_
    refine q_rGI C hp h rfl iX5_addVoice_X5 (by decide) kX5_addVoice_28 dX5_addVoice_33 (fun v_9 h => ?_)
    refine lv_iconst (v := 1) hx hb dX5_addVoice_36 (by decide) ?_
    refine lv_iadd hx hb dX5_addVoice_37 ?_
    refine q_rP C hp h tyX5 tyX5_ok nmX5 rfl iX5_addVoice_X5 (by decide) kX5_addVoice_28 rfl rfl rfl rfl dX5_addVoice_38 (fun S_10 H locs h hp => ?_)
    refine lv_iload_n hx hb dX5_addVoice_41 rfl (q_at hl 0 rfl) ?_
    refine W.widen (k := rmX5_addVoice.cells) (n := rmX5_addVoice.slots) (Nat.le_of_ble_eq_true rfl) (Nat.le_of_ble_eq_true rfl) ?_
    exact q_iret C hp hr h dX5_addVoice_42
  · replace h := h.2 c_2
    refine lv_bipush (v := (-104)) hx hb dX5_addVoice_9 (by decide) ?_
    refine W.widen (k := rmX5_addVoice.cells) (n := rmX5_addVoice.slots) (Nat.le_of_ble_eq_true rfl) (Nat.le_of_ble_eq_true rfl) ?_
    exact q_iret C hp hr h dX5_addVoice_11
theorem kX5_voiceAt_11 : Cond.fieldLink RX5 11 (TX5 0).1 (TX5 0).2.1 (TX5 0).2.2.1 ∈ wsX5_voiceAt := by decide +kernel
theorem iX5_voiceAt_X5 : ∀ w ∈ u_ws RX5 TX5 5, w ∈ wsX5_voiceAt := by decide +kernel
set_option maxHeartbeats 4000000 in
set_option maxRecDepth 100000 in
theorem RX5_voiceAt (l : Launch) (D : va_G) (g : q_A) (S : q_S) (a0 : Nat) (x1 : Int32) (Q : Option Nat → q_S → Prop) (h : wX5_voiceAt a0 x1 Q S) : q_Mq l yX5_voiceAt wsX5_voiceAt rmX5_voiceAt D g [.ref a0, .int x1] S Q := by
  refine q_Mq.of (cc := cX5_voiceAt) (nL := 2) (rt := (.object "PartPages$Voice")) (by decide +kernel) rfl (Nat.le_of_ble_eq_true rfl) rfl ?_
  intro p e s m args below meth c ls A C hr hnm hp hl
  have C : q_X p s m args meth c cX5_voiceAt 2 RX5 wsX5_voiceAt D g A := C
  have hx := C.1
  have hb := C.2.1
  have hl : q_l ls 2 [(0, .ref a0), (1, .int x1)] := hl
  unfold wX5_voiceAt at h
  replace h := h.2
  refine lv_iload_n hx hb dX5_voiceAt_0 rfl (q_at hl 1 rfl) ?_
  refine lv_if_lt (tgt := 19) hx hb dX5_voiceAt_1 (by decide) (fun c_1 => ?_) (fun c_1 => ?_)
  · replace h := h.1 c_1
    refine lv_null hx hb dX5_voiceAt_19 ?_
    exact q_aret (o := none) C hp hr (Or.inl ⟨_, rfl⟩) h dX5_voiceAt_20
  · replace h := h.2 c_1
    refine lv_iload_n hx hb dX5_voiceAt_4 rfl (q_at hl 1 rfl) ?_
    refine lv_bipush (v := 6) hx hb dX5_voiceAt_5 (by decide) ?_
    refine lv_icmp_ge (tgt := 19) hx hb dX5_voiceAt_7 (by decide) (fun c_2 => ?_) (fun c_2 => ?_)
    · replace h := h.1 c_2
      refine lv_null hx hb dX5_voiceAt_19 ?_
      exact q_aret (o := none) C hp hr (Or.inl ⟨_, rfl⟩) h dX5_voiceAt_20
    · replace h := h.2 c_2
      refine lv_aload_n hx hb dX5_voiceAt_10 rfl (q_at hl 0 rfl) ?_
      refine q_rGR C hp h rfl iX5_voiceAt_X5 (by decide) kX5_voiceAt_11 dX5_voiceAt_11 (fun r_3 h => ?_)
      refine lv_iload_n hx hb dX5_voiceAt_14 rfl (q_at hl 1 rfl) ?_
      refine q_rLV C hp h dX5_voiceAt_15 (fun o_4 h => ?_)
      refine lv_goto (tgt := 20) hx hb dX5_voiceAt_16 (by decide) ?_
      exact q_aret (o := o_4) C hp hr (Or.inl ⟨_, rfl⟩) h dX5_voiceAt_20
theorem kX5_resize_20 : Cond.fieldLink RX5 20 (TX5 1).1 (TX5 1).2.1 (TX5 1).2.2.1 ∈ wsX5_resize := by decide +kernel
theorem kX5_resize_42 : Cond.fieldLink RX5 42 (TX5 3).1 (TX5 3).2.1 (TX5 3).2.2.1 ∈ wsX5_resize := by decide +kernel
theorem kX5_resize_45 : Cond.fieldLinkNest RX5 45 (TX6 1).1 (TX6 1).2.1 (TX6 1).2.2.1 RX7 ∈ q_nest := by decide +kernel
theorem iX5_resize_X5 : ∀ w ∈ u_ws RX5 TX5 5, w ∈ wsX5_resize := by decide +kernel
theorem iX5_resize_X6 : ∀ w ∈ u_ws RX6 TX6 5, w ∈ wsX5_resize := by decide +kernel
set_option maxHeartbeats 4000000 in
set_option maxRecDepth 100000 in
theorem RX5_resize (l : Launch) (D : va_G) (g : q_A) (S : q_S) (a0 : Nat) (x1 : Int32) (Q : Int32 → q_S → Prop) (h : wX5_resize a0 x1 Q S) : q_Mi l yX5_resize wsX5_resize rmX5_resize D g [.ref a0, .int x1] S Q := by
  refine q_Mi.of (cc := cX5_resize) (nL := 5) (rt := .int) (by decide +kernel) rfl (Nat.le_of_ble_eq_true rfl) rfl ?_
  intro p e s m args below meth c ls A C hr hnm hp hl
  have C : q_X p s m args meth c cX5_resize 5 RX5 wsX5_resize D g A := C
  have hx := C.1
  have hb := C.2.1
  have hl : q_l ls 5 [(0, .ref a0), (1, .int x1)] := hl
  have j35 : ∀ (k7 : Nat → Int32 → Int32 → Int32 → q_S → Prop) (ih7 : ∀ (a0 : Nat) (x1 : Int32) (x2 : Int32) (x3 : Int32) (S : q_S) (H : Heap) (locs : List Loc) (ls : Array Slot), k7 a0 x1 x2 x3 S → q_P D g A s.heap S H locs → q_l ls 5 [(0, .ref a0), (1, .int x1), (2, .int x2), (3, .int x3)] → W p l e rmX5_resize s m args below meth c H locs 0 0 (MQ below (va_Qi Q (q_B D g A) A) args s rmX5_resize.cells rmX5_resize.slots A) (F0 m 7 ls [])) (a0 : Nat) (x1 : Int32) (x2 : Int32) (x3 : Int32) (S : q_S) (H : Heap) (locs : List Loc) (ls : Array Slot), wX5_resize_b35 Q k7 a0 x1 x2 x3 S → q_P D g A s.heap S H locs → q_l ls 5 [(0, .ref a0), (1, .int x1), (2, .int x2), (3, .int x3)] → W p l e rmX5_resize s m args below meth c H locs 0 0 (MQ below (va_Qi Q (q_B D g A) A) args s rmX5_resize.cells rmX5_resize.slots A) (F0 m 35 ls []) := by
    intro k7 ih7 a0 x1 x2 x3 S H locs ls h hp hl
    unfold wX5_resize_b35 at h
    refine q_inc (x := x3) (v := (x3 + (1 : Int32))) (lv' := [(3, .int (x3 + (1 : Int32))), (0, .ref a0), (1, .int x1), (2, .int x2)]) hx hb dX5_resize_35 hl (k := 3) rfl rfl (by decide) rfl (fun ls hl => ?_)
    refine lv_goto (tgt := 7) hx hb dX5_resize_38 (by decide) ?_
    exact ih7 a0 x1 x2 (x3 + (1 : Int32)) _ _ _ _ h hp (q_sub hl [1, 2, 3, 0] rfl)
  have j7 : ∀ (n : Nat), ∀ (a0 : Nat) (x1 : Int32) (x2 : Int32) (x3 : Int32) (S : q_S) (H : Heap) (locs : List Loc) (ls : Array Slot), lX5_resize_b7 Q n a0 x1 x2 x3 S → q_P D g A s.heap S H locs → q_l ls 5 [(0, .ref a0), (1, .int x1), (2, .int x2), (3, .int x3)] → W p l e rmX5_resize s m args below meth c H locs 0 0 (MQ below (va_Qi Q (q_B D g A) A) args s rmX5_resize.cells rmX5_resize.slots A) (F0 m 7 ls []) := by
    intro n
    induction n with
    | zero => intro a0 x1 x2 x3 S H locs ls h; exact absurd h (fun h => h)
    | succ n ih7 =>
      intro a0 x1 x2 x3 S H locs ls h hp hl
      have h : wX5_resize_b7 Q (lX5_resize_b7 Q n) a0 x1 x2 x3 S := h
      unfold wX5_resize_b7 at h
      refine lv_iload_n hx hb dX5_resize_7 rfl (q_at hl 3 rfl) ?_
      refine lv_bipush (v := 6) hx hb dX5_resize_8 (by decide) ?_
      refine lv_icmp_ge (tgt := 41) hx hb dX5_resize_10 (by decide) (fun c_1 => ?_) (fun c_1 => ?_)
      · replace h := h.1 c_1
        refine lv_aload_n hx hb dX5_resize_41 rfl (q_at hl 0 rfl) ?_
        refine q_rGR C hp h rfl iX5_resize_X5 (by decide) kX5_resize_20 dX5_resize_42 (fun r_2 h => ?_)
        refine lv_iload_n hx hb dX5_resize_45 rfl (q_at hl 1 rfl) ?_
        refine lv_iload_n hx hb dX5_resize_46 rfl (q_at hl 2 rfl) ?_
        refine q_finV0 C hp (q_runV (As := [.int x1, .int x2]) (rest := []) C hp (RX2_clearFrom l D g _ r_2 x1 x2 _ h _) (cwV 2 C.2.2.2.2.1 gX5_resize_X2_clearFrom rfl rfl rfl (by decide +kernel) ⟨(Nat.le_of_ble_eq_true rfl), (Nat.le_of_ble_eq_true rfl)⟩) h.1 rfl rfl hl.1.1 rfl (Nat.le_of_ble_eq_true rfl) dX5_resize_47 ⟨(Nat.le_of_ble_eq_true rfl), (Nat.le_of_ble_eq_true rfl)⟩) rfl rfl (fun S_3 H locs h hp => ?_)
        refine lv_aload_n hx hb dX5_resize_50 rfl (q_at hl 0 rfl) ?_
        refine lv_iload_n hx hb dX5_resize_51 rfl (q_at hl 1 rfl) ?_
        refine q_rP C hp h tyX5 tyX5_ok nmX5 rfl iX5_resize_X5 (by decide) kX5_resize_42 rfl rfl rfl rfl dX5_resize_52 (fun S_4 H locs h hp => ?_)
        refine lv_iload_n hx hb dX5_resize_55 rfl (q_at hl 2 rfl) ?_
        exact q_iret C hp hr h dX5_resize_56
      · replace h := h.2 c_1
        refine lv_aload_n hx hb dX5_resize_13 rfl (q_at hl 0 rfl) ?_
        refine lv_iload_n hx hb dX5_resize_14 rfl (q_at hl 3 rfl) ?_
        refine q_finQ0 C hp (q_runV (As := [.int x3]) (rest := []) C hp (RX5_voiceAt l D g _ a0 x3 _ h _) (cwV 1 C.2.2.2.2.1 gX5_resize_X5_voiceAt rfl rfl rfl (by decide +kernel) ⟨(Nat.le_of_ble_eq_true rfl), (Nat.le_of_ble_eq_true rfl)⟩) h.1 rfl rfl hl.1.1 rfl (Nat.le_of_ble_eq_true rfl) dX5_resize_15 ⟨(Nat.le_of_ble_eq_true rfl), (Nat.le_of_ble_eq_true rfl)⟩) rfl rfl (fun o_6 S_5 H locs h hp => ?_)
        refine q_ast (o := o_6) (lv' := [(4, va_rf o_6), (0, .ref a0), (1, .int x1), (2, .int x2), (3, .int x3)]) hx hb dX5_resize_18 hl (by decide) rfl (fun ls hl => ?_)
        refine q_aload (o := o_6) hx hb dX5_resize_20 (q_at hl 0 rfl) ?_
        refine q_ifnull (o := o_6) (tgt := 35) hx hb dX5_resize_22 (by decide) (fun c_8 => ?_) (fun a_7 c_8 => ?_)
        · replace h := h.1 c_8
          subst c_8
          exact j35 (lX5_resize_b7 Q n) ih7 a0 x1 x2 x3 _ _ _ _ h hp (q_sub hl [1, 2, 3, 4] rfl)
        · replace h := h.2 a_7 c_8
          subst c_8
          refine lv_aload hx hb dX5_resize_25 (q_at hl 0 rfl) ?_
          refine q_nGR C hp h rfl iX5_resize_X6 (by decide) kX5_resize_45 dX5_resize_27 (fun r_9 h => ?_)
          refine lv_iload_n hx hb dX5_resize_30 rfl (q_at hl 2 rfl) ?_
          refine lv_iload_n hx hb dX5_resize_31 rfl (q_at hl 3 rfl) ?_
          refine q_finV0 C hp (q_runV (As := [.int x1, .int x2]) (rest := []) C hp (RX3_clearFrom l D g _ r_9 x1 x2 _ h _) (cwV 2 C.2.2.2.2.1 gX5_resize_X3_clearFrom rfl rfl rfl (by decide +kernel) ⟨(Nat.le_of_ble_eq_true rfl), (Nat.le_of_ble_eq_true rfl)⟩) h.1 rfl rfl hl.1.1 rfl (Nat.le_of_ble_eq_true rfl) dX5_resize_32 ⟨(Nat.le_of_ble_eq_true rfl), (Nat.le_of_ble_eq_true rfl)⟩) rfl rfl (fun S_10 H locs h hp => ?_)
          exact j35 (lX5_resize_b7 Q n) ih7 a0 x1 x2 x3 _ _ _ _ h hp (q_sub hl [1, 2, 3, 4] rfl)
  unfold wX5_resize at h
  replace h := h.2
  refine lv_aload_n hx hb dX5_resize_0 rfl (q_at hl 0 rfl) ?_
  refine q_rGI C hp h rfl iX5_resize_X5 (by decide) kX5_resize_42 dX5_resize_1 (fun v_11 h => ?_)
  refine q_istn (lv' := [(2, .int v_11), (0, .ref a0), (1, .int x1)]) hx hb dX5_resize_4 rfl hl (by decide) rfl (fun ls hl => ?_)
  refine lv_iconst (v := 0) hx hb dX5_resize_5 (by decide) ?_
  refine q_istn (lv' := [(3, .int (0 : Int32)), (2, .int v_11), (0, .ref a0), (1, .int x1)]) hx hb dX5_resize_6 rfl hl (by decide) rfl (fun ls hl => ?_)
  exact j7 q_fuel a0 x1 v_11 (0 : Int32) _ _ _ _ h hp (q_sub hl [2, 3, 1, 0] rfl)
theorem kX5_hasBar_42 : Cond.fieldLink RX5 42 (TX5 3).1 (TX5 3).2.1 (TX5 3).2.2.1 ∈ wsX5_hasBar := by decide +kernel
theorem iX5_hasBar_X5 : ∀ w ∈ u_ws RX5 TX5 5, w ∈ wsX5_hasBar := by decide +kernel
set_option maxHeartbeats 4000000 in
set_option maxRecDepth 100000 in
theorem RX5_hasBar (l : Launch) (D : va_G) (g : q_A) (S : q_S) (a0 : Nat) (x1 : Int32) (Q : Int32 → q_S → Prop) (h : wX5_hasBar a0 x1 Q S) : q_Mi l yX5_hasBar wsX5_hasBar rmX5_hasBar D g [.ref a0, .int x1] S Q := by
  refine q_Mi.of (cc := cX5_hasBar) (nL := 2) (rt := .boolean) (by decide +kernel) rfl (Nat.le_of_ble_eq_true rfl) rfl ?_
  intro p e s m args below meth c ls A C hr hnm hp hl
  have C : q_X p s m args meth c cX5_hasBar 2 RX5 wsX5_hasBar D g A := C
  have hx := C.1
  have hb := C.2.1
  have hl : q_l ls 2 [(0, .ref a0), (1, .int x1)] := hl
  unfold wX5_hasBar at h
  replace h := h.2
  refine lv_iload_n hx hb dX5_hasBar_0 rfl (q_at hl 1 rfl) ?_
  refine lv_if_lt (tgt := 16) hx hb dX5_hasBar_1 (by decide) (fun c_1 => ?_) (fun c_1 => ?_)
  · replace h := h.1 c_1
    refine lv_iconst (v := 0) hx hb dX5_hasBar_16 (by decide) ?_
    exact q_zret C hp hr h dX5_hasBar_17
  · replace h := h.2 c_1
    refine lv_iload_n hx hb dX5_hasBar_4 rfl (q_at hl 1 rfl) ?_
    refine lv_aload_n hx hb dX5_hasBar_5 rfl (q_at hl 0 rfl) ?_
    refine q_rGI C hp h rfl iX5_hasBar_X5 (by decide) kX5_hasBar_42 dX5_hasBar_6 (fun v_2 h => ?_)
    refine lv_icmp_ge (tgt := 16) hx hb dX5_hasBar_9 (by decide) (fun c_3 => ?_) (fun c_3 => ?_)
    · replace h := h.1 c_3
      refine lv_iconst (v := 0) hx hb dX5_hasBar_16 (by decide) ?_
      exact q_zret C hp hr h dX5_hasBar_17
    · replace h := h.2 c_3
      refine lv_iconst (v := 1) hx hb dX5_hasBar_12 (by decide) ?_
      refine lv_goto (tgt := 17) hx hb dX5_hasBar_13 (by decide) ?_
      exact q_zret C hp hr h dX5_hasBar_17
theorem kX5_emptyUpTo_45 : Cond.fieldLinkNest RX5 45 (TX6 1).1 (TX6 1).2.1 (TX6 1).2.2.1 RX7 ∈ q_nest := by decide +kernel
theorem iX5_emptyUpTo_X6 : ∀ w ∈ u_ws RX6 TX6 5, w ∈ wsX5_emptyUpTo := by decide +kernel
set_option maxHeartbeats 4000000 in
set_option maxRecDepth 100000 in
theorem RX5_emptyUpTo (l : Launch) (D : va_G) (g : q_A) (S : q_S) (a0 : Nat) (x1 : Int32) (Q : Int32 → q_S → Prop) (h : wX5_emptyUpTo a0 x1 Q S) : q_Mi l yX5_emptyUpTo wsX5_emptyUpTo rmX5_emptyUpTo D g [.ref a0, .int x1] S Q := by
  refine q_Mi.of (cc := cX5_emptyUpTo) (nL := 4) (rt := .int) (by decide +kernel) rfl (Nat.le_of_ble_eq_true rfl) rfl ?_
  intro p e s m args below meth c ls A C hr hnm hp hl
  have C : q_X p s m args meth c cX5_emptyUpTo 4 RX5 wsX5_emptyUpTo D g A := C
  have hx := C.1
  have hb := C.2.1
  have hl : q_l ls 4 [(0, .ref a0), (1, .int x1)] := hl
  have j4 : ∀ (n : Nat), ∀ (a0 : Nat) (x2 : Int32) (x3 : Int32) (S : q_S) (H : Heap) (locs : List Loc) (ls : Array Slot), lX5_emptyUpTo_b4 Q n a0 x2 x3 S → q_P D g A s.heap S H locs → q_l ls 4 [(0, .ref a0), (2, .int x2), (3, .int x3)] → W p l e rmX5_emptyUpTo s m args below meth c H locs 0 0 (MQ below (va_Qi Q (q_B D g A) A) args s rmX5_emptyUpTo.cells rmX5_emptyUpTo.slots A) (F0 m 4 ls []) := by
    intro n
    induction n with
    | zero => intro a0 x2 x3 S H locs ls h; exact absurd h (fun h => h)
    | succ n ih4 =>
      intro a0 x2 x3 S H locs ls h hp hl
      have h : wX5_emptyUpTo_b4 Q (lX5_emptyUpTo_b4 Q n) a0 x2 x3 S := h
      unfold wX5_emptyUpTo_b4 at h
      refine lv_iload_n hx hb dX5_emptyUpTo_4 rfl (q_at hl 2 rfl) ?_
      refine lv_if_lt (tgt := 28) hx hb dX5_emptyUpTo_5 (by decide) (fun c_1 => ?_) (fun c_1 => ?_)
      · replace h := h.1 c_1
        refine lv_iload_n hx hb dX5_emptyUpTo_28 rfl (q_at hl 1 rfl) ?_
        exact q_iret C hp hr h dX5_emptyUpTo_29
      · replace h := h.2 c_1
        refine lv_aload_n hx hb dX5_emptyUpTo_8 rfl (q_at hl 0 rfl) ?_
        refine q_nGR C hp h rfl iX5_emptyUpTo_X6 (by decide) kX5_emptyUpTo_45 dX5_emptyUpTo_9 (fun r_2 h => ?_)
        refine lv_iload_n hx hb dX5_emptyUpTo_12 rfl (q_at hl 2 rfl) ?_
        refine q_finI0 C hp (q_runV (As := [.int x3]) (rest := []) C hp (RX3_size l D g _ r_2 x3 _ h _) (cwV 1 C.2.2.2.2.1 gX5_emptyUpTo_X3_size rfl rfl rfl (by decide +kernel) ⟨(Nat.le_of_ble_eq_true rfl), (Nat.le_of_ble_eq_true rfl)⟩) h.1 rfl rfl hl.1.1 rfl (Nat.le_of_ble_eq_true rfl) dX5_emptyUpTo_13 ⟨(Nat.le_of_ble_eq_true rfl), (Nat.le_of_ble_eq_true rfl)⟩) rfl rfl (fun v_4 S_3 H locs h hp => ?_)
        refine lv_if_ne (tgt := 28) hx hb dX5_emptyUpTo_16 (by decide) (fun c_5 => ?_) (fun c_5 => ?_)
        · replace h := h.1 c_5
          refine lv_iload_n hx hb dX5_emptyUpTo_28 rfl (q_at hl 1 rfl) ?_
          exact q_iret C hp hr h dX5_emptyUpTo_29
        · replace h := h.2 c_5
          refine q_inc (x := x2) (v := (x2 + (1 : Int32))) (lv' := [(2, .int (x2 + (1 : Int32))), (0, .ref a0), (3, .int x3)]) hx hb dX5_emptyUpTo_19 hl (k := 1) rfl rfl (by decide) rfl (fun ls hl => ?_)
          refine q_inc (x := x3) (v := (x3 + (-1 : Int32))) (lv' := [(3, .int (x3 + (-1 : Int32))), (2, .int (x2 + (1 : Int32))), (0, .ref a0)]) hx hb dX5_emptyUpTo_22 hl (k := 2) rfl rfl (by decide) rfl (fun ls hl => ?_)
          refine lv_goto (tgt := 4) hx hb dX5_emptyUpTo_25 (by decide) ?_
          exact ih4 a0 (x2 + (1 : Int32)) (x3 + (-1 : Int32)) _ _ _ _ h hp (q_sub hl [2, 1, 0] rfl)
  unfold wX5_emptyUpTo at h
  refine lv_iconst (v := 0) hx hb dX5_emptyUpTo_0 (by decide) ?_
  refine q_istn (lv' := [(2, .int (0 : Int32)), (0, .ref a0), (1, .int x1)]) hx hb dX5_emptyUpTo_1 rfl hl (by decide) rfl (fun ls hl => ?_)
  refine lv_iload_n hx hb dX5_emptyUpTo_2 rfl (q_at hl 2 rfl) ?_
  refine q_istn (lv' := [(3, .int x1), (2, .int (0 : Int32)), (0, .ref a0), (1, .int x1)]) hx hb dX5_emptyUpTo_3 rfl hl (by decide) rfl (fun ls hl => ?_)
  exact j4 q_fuel a0 (0 : Int32) x1 _ _ _ _ h hp (q_sub hl [2, 1, 0] rfl)
theorem kX5_cueFor_24 : Cond.fieldLink RX5 24 (TX5 4).1 (TX5 4).2.1 (TX5 4).2.2.1 ∈ wsX5_cueFor := by decide +kernel
theorem kX5_cueFor_45 : Cond.fieldLinkNest RX5 45 (TX6 1).1 (TX6 1).2.1 (TX6 1).2.2.1 RX7 ∈ q_nest := by decide +kernel
theorem iX5_cueFor_X5 : ∀ w ∈ u_ws RX5 TX5 5, w ∈ wsX5_cueFor := by decide +kernel
theorem iX5_cueFor_X6 : ∀ w ∈ u_ws RX6 TX6 5, w ∈ wsX5_cueFor := by decide +kernel
set_option maxHeartbeats 4000000 in
set_option maxRecDepth 100000 in
theorem RX5_cueFor (l : Launch) (D : va_G) (g : q_A) (S : q_S) (a0 : Nat) (a1 : Nat) (x2 : Int32) (Q : Option Nat → q_S → Prop) (h : wX5_cueFor a0 a1 x2 Q S) : q_Mq l yX5_cueFor wsX5_cueFor rmX5_cueFor D g [.ref a0, .ref a1, .int x2] S Q := by
  refine q_Mq.of (cc := cX5_cueFor) (nL := 8) (rt := (.object "PartPages$Voice")) (by decide +kernel) rfl (Nat.le_of_ble_eq_true rfl) rfl ?_
  intro p e s m args below meth c ls A C hr hnm hp hl
  have C : q_X p s m args meth c cX5_cueFor 8 RX5 wsX5_cueFor D g A := C
  have hx := C.1
  have hb := C.2.1
  have hl : q_l ls 8 [(0, .ref a0), (1, .ref a1), (2, .int x2)] := hl
  have j106 : ∀ (k57 : Nat → Int32 → Option Nat → Int32 → Int32 → q_S → Prop) (ih57 : ∀ (a0 : Nat) (x2 : Int32) (o4 : Option Nat) (x5 : Int32) (x6 : Int32) (S : q_S) (H : Heap) (locs : List Loc) (ls : Array Slot), k57 a0 x2 o4 x5 x6 S → q_P D g A s.heap S H locs → q_l ls 8 [(0, .ref a0), (2, .int x2), (4, va_rf o4), (5, .int x5), (6, .int x6)] → W p l e rmX5_cueFor s m args below meth c H locs 0 0 (MQ below (va_Qq Q (q_B D g A) A) args s rmX5_cueFor.cells rmX5_cueFor.slots A) (F0 m 57 ls [])) (a0 : Nat) (x2 : Int32) (o4 : Option Nat) (x5 : Int32) (x6 : Int32) (S : q_S) (H : Heap) (locs : List Loc) (ls : Array Slot), wX5_cueFor_b106 Q k57 a0 x2 o4 x5 x6 S → q_P D g A s.heap S H locs → q_l ls 8 [(0, .ref a0), (2, .int x2), (4, va_rf o4), (5, .int x5), (6, .int x6)] → W p l e rmX5_cueFor s m args below meth c H locs 0 0 (MQ below (va_Qq Q (q_B D g A) A) args s rmX5_cueFor.cells rmX5_cueFor.slots A) (F0 m 106 ls []) := by
    intro k57 ih57 a0 x2 o4 x5 x6 S H locs ls h hp hl
    unfold wX5_cueFor_b106 at h
    refine q_inc (x := x6) (v := (x6 + (1 : Int32))) (lv' := [(6, .int (x6 + (1 : Int32))), (0, .ref a0), (2, .int x2), (4, va_rf o4), (5, .int x5)]) hx hb dX5_cueFor_106 hl (k := 4) rfl rfl (by decide) rfl (fun ls hl => ?_)
    refine lv_goto (tgt := 57) hx hb dX5_cueFor_109 (by decide) ?_
    exact ih57 a0 x2 o4 x5 (x6 + (1 : Int32)) _ _ _ _ h hp (q_sub hl [1, 2, 3, 4, 0] rfl)
  have j57 : ∀ (n : Nat), ∀ (a0 : Nat) (x2 : Int32) (o4 : Option Nat) (x5 : Int32) (x6 : Int32) (S : q_S) (H : Heap) (locs : List Loc) (ls : Array Slot), lX5_cueFor_b57 Q n a0 x2 o4 x5 x6 S → q_P D g A s.heap S H locs → q_l ls 8 [(0, .ref a0), (2, .int x2), (4, va_rf o4), (5, .int x5), (6, .int x6)] → W p l e rmX5_cueFor s m args below meth c H locs 0 0 (MQ below (va_Qq Q (q_B D g A) A) args s rmX5_cueFor.cells rmX5_cueFor.slots A) (F0 m 57 ls []) := by
    intro n
    induction n with
    | zero => intro a0 x2 o4 x5 x6 S H locs ls h; exact absurd h (fun h => h)
    | succ n ih57 =>
      intro a0 x2 o4 x5 x6 S H locs ls h hp hl
      have h : wX5_cueFor_b57 Q (lX5_cueFor_b57 Q n) a0 x2 o4 x5 x6 S := h
      unfold wX5_cueFor_b57 at h
      refine lv_iload hx hb dX5_cueFor_57 (q_at hl 4 rfl) ?_
      refine lv_bipush (v := 6) hx hb dX5_cueFor_59 (by decide) ?_
      refine lv_icmp_ge (tgt := 112) hx hb dX5_cueFor_61 (by decide) (fun c_1 => ?_) (fun c_1 => ?_)
      · replace h := h.1 c_1
        refine q_aload (o := o4) hx hb dX5_cueFor_112 (q_at hl 2 rfl) ?_
        exact q_aret (o := o4) C hp hr (Or.inl ⟨_, rfl⟩) h dX5_cueFor_114
      · replace h := h.2 c_1
        refine lv_aload_n hx hb dX5_cueFor_64 rfl (q_at hl 0 rfl) ?_
        refine lv_iload hx hb dX5_cueFor_65 (q_at hl 4 rfl) ?_
        refine q_finQ0 C hp (q_runV (As := [.int x6]) (rest := []) C hp (RX5_voiceAt l D g _ a0 x6 _ h _) (cwV 1 C.2.2.2.2.1 gX5_cueFor_X5_voiceAt rfl rfl rfl (by decide +kernel) ⟨(Nat.le_of_ble_eq_true rfl), (Nat.le_of_ble_eq_true rfl)⟩) h.1 rfl rfl hl.1.1 rfl (Nat.le_of_ble_eq_true rfl) dX5_cueFor_67 ⟨(Nat.le_of_ble_eq_true rfl), (Nat.le_of_ble_eq_true rfl)⟩) rfl rfl (fun o_3 S_2 H locs h hp => ?_)
        refine q_ast (o := o_3) (lv' := [(7, va_rf o_3), (0, .ref a0), (2, .int x2), (4, va_rf o4), (5, .int x5), (6, .int x6)]) hx hb dX5_cueFor_70 hl (by decide) rfl (fun ls hl => ?_)
        refine q_aload (o := o_3) hx hb dX5_cueFor_72 (q_at hl 0 rfl) ?_
        refine q_ifnull (o := o_3) (tgt := 106) hx hb dX5_cueFor_74 (by decide) (fun c_5 => ?_) (fun a_4 c_5 => ?_)
        · replace h := h.1 c_5
          subst c_5
          exact j106 (lX5_cueFor_b57 Q n) ih57 a0 x2 o4 x5 x6 _ _ _ _ h hp (q_sub hl [1, 2, 3, 4, 5] rfl)
        · replace h := h.2 a_4 c_5
          subst c_5
          refine lv_aload hx hb dX5_cueFor_77 (q_at hl 0 rfl) ?_
          refine q_nGR C hp h rfl iX5_cueFor_X6 (by decide) kX5_cueFor_45 dX5_cueFor_79 (fun r_6 h => ?_)
          refine lv_iload_n hx hb dX5_cueFor_82 rfl (q_at hl 2 rfl) ?_
          refine q_finI0 C hp (q_runV (As := [.int x2]) (rest := []) C hp (RX3_size l D g _ r_6 x2 _ h _) (cwV 1 C.2.2.2.2.1 gX5_cueFor_X3_size rfl rfl rfl (by decide +kernel) ⟨(Nat.le_of_ble_eq_true rfl), (Nat.le_of_ble_eq_true rfl)⟩) h.1 rfl rfl hl.1.1 rfl (Nat.le_of_ble_eq_true rfl) dX5_cueFor_83 ⟨(Nat.le_of_ble_eq_true rfl), (Nat.le_of_ble_eq_true rfl)⟩) rfl rfl (fun v_8 S_7 H locs h hp => ?_)
          refine lv_iload hx hb dX5_cueFor_86 (q_at hl 4 rfl) ?_
          refine lv_icmp_le (tgt := 106) hx hb dX5_cueFor_88 (by decide) (fun c_9 => ?_) (fun c_9 => ?_)
          · replace h := h.1 c_9
            exact j106 (lX5_cueFor_b57 Q n) ih57 a0 x2 o4 x5 x6 _ _ _ _ h hp (q_sub hl [1, 2, 3, 4, 5] rfl)
          · replace h := h.2 c_9
            refine lv_aload hx hb dX5_cueFor_91 (q_at hl 0 rfl) ?_
            refine q_ast (o := (some a_4)) (lv' := [(4, .ref a_4), (7, .ref a_4), (0, .ref a0), (2, .int x2), (5, .int x5), (6, .int x6)]) hx hb dX5_cueFor_93 hl (by decide) rfl (fun ls hl => ?_)
            refine lv_aload hx hb dX5_cueFor_95 (q_at hl 1 rfl) ?_
            refine q_nGR C hp h rfl iX5_cueFor_X6 (by decide) kX5_cueFor_45 dX5_cueFor_97 (fun r_10 h => ?_)
            refine lv_iload_n hx hb dX5_cueFor_100 rfl (q_at hl 3 rfl) ?_
            refine q_finI0 C hp (q_runV (As := [.int x2]) (rest := []) C hp (RX3_size l D g _ r_10 x2 _ h _) (cwV 1 C.2.2.2.2.1 gX5_cueFor_X3_size rfl rfl rfl (by decide +kernel) ⟨(Nat.le_of_ble_eq_true rfl), (Nat.le_of_ble_eq_true rfl)⟩) h.1 rfl rfl hl.1.1 rfl (Nat.le_of_ble_eq_true rfl) dX5_cueFor_101 ⟨(Nat.le_of_ble_eq_true rfl), (Nat.le_of_ble_eq_true rfl)⟩) rfl rfl (fun v_12 S_11 H locs h hp => ?_)
            refine q_ist (lv' := [(5, .int v_12), (4, .ref a_4), (7, .ref a_4), (0, .ref a0), (2, .int x2), (6, .int x6)]) hx hb dX5_cueFor_104 hl (by decide) rfl (fun ls hl => ?_)
            exact j106 (lX5_cueFor_b57 Q n) ih57 a0 x2 (some a_4) v_12 x6 _ _ _ _ h hp (q_sub hl [3, 4, 1, 0, 5] rfl)
  have j29 : ∀ (a0 : Nat) (a1 : Nat) (x2 : Int32) (y0 : Int32) (S : q_S) (H : Heap) (locs : List Loc) (ls : Array Slot), wX5_cueFor_b29 Q a0 a1 x2 y0 S → q_P D g A s.heap S H locs → q_l ls 8 [(0, .ref a0), (1, .ref a1), (2, .int x2)] → W p l e rmX5_cueFor s m args below meth c H locs 0 0 (MQ below (va_Qq Q (q_B D g A) A) args s rmX5_cueFor.cells rmX5_cueFor.slots A) (F0 m 29 ls [.int y0]) := by
    intro a0 a1 x2 y0 S H locs ls h hp hl
    unfold wX5_cueFor_b29 at h
    refine q_istn (lv' := [(3, .int y0), (0, .ref a0), (1, .ref a1), (2, .int x2)]) hx hb dX5_cueFor_29 rfl hl (by decide) rfl (fun ls hl => ?_)
    refine lv_iload_n hx hb dX5_cueFor_30 rfl (q_at hl 0 rfl) ?_
    refine lv_if_eq (tgt := 46) hx hb dX5_cueFor_31 (by decide) (fun c_13 => ?_) (fun c_13 => ?_)
    · replace h := h.1 c_13
      refine lv_null hx hb dX5_cueFor_46 ?_
      exact q_aret (o := none) C hp hr (Or.inl ⟨_, rfl⟩) h dX5_cueFor_47
    · replace h := h.2 c_13
      refine lv_aload_n hx hb dX5_cueFor_34 rfl (q_at hl 2 rfl) ?_
      refine lv_iload_n hx hb dX5_cueFor_35 rfl (q_at hl 3 rfl) ?_
      refine q_finI0 C hp (q_runS (As := [.ref a1, .int x2]) (rest := []) C hp (RX5_emptyUpTo l D g _ a1 x2 _ h _) (va_cwS 2 C.2.2.2.2.1 gX5_cueFor_X5_emptyUpTo rfl rfl rfl (by decide +kernel) ⟨(Nat.le_of_ble_eq_true rfl), (Nat.le_of_ble_eq_true rfl)⟩) rfl hl.1.1 rfl (Nat.le_of_ble_eq_true rfl) dX5_cueFor_36 ⟨(Nat.le_of_ble_eq_true rfl), (Nat.le_of_ble_eq_true rfl)⟩) rfl rfl (fun v_15 S_14 H locs h hp => ?_)
      refine lv_aload_n hx hb dX5_cueFor_39 rfl (q_at hl 1 rfl) ?_
      refine q_rGI C hp h rfl iX5_cueFor_X5 (by decide) kX5_cueFor_24 dX5_cueFor_40 (fun v_16 h => ?_)
      refine lv_icmp_ge (tgt := 48) hx hb dX5_cueFor_43 (by decide) (fun c_17 => ?_) (fun c_17 => ?_)
      · replace h := h.1 c_17
        refine lv_null hx hb dX5_cueFor_48 ?_
        refine q_ast (o := none) (lv' := [(4, va_rf none), (3, .int y0), (0, .ref a0), (1, .ref a1), (2, .int x2)]) hx hb dX5_cueFor_49 hl (by decide) rfl (fun ls hl => ?_)
        refine lv_iconst (v := 0) hx hb dX5_cueFor_51 (by decide) ?_
        refine q_ist (lv' := [(5, .int (0 : Int32)), (4, va_rf none), (3, .int y0), (0, .ref a0), (1, .ref a1), (2, .int x2)]) hx hb dX5_cueFor_52 hl (by decide) rfl (fun ls hl => ?_)
        refine lv_iconst (v := 0) hx hb dX5_cueFor_54 (by decide) ?_
        refine q_ist (lv' := [(6, .int (0 : Int32)), (5, .int (0 : Int32)), (4, va_rf none), (3, .int y0), (0, .ref a0), (1, .ref a1), (2, .int x2)]) hx hb dX5_cueFor_55 hl (by decide) rfl (fun ls hl => ?_)
        exact j57 q_fuel a0 x2 none (0 : Int32) (0 : Int32) _ _ _ _ h hp (q_sub hl [4, 6, 2, 1, 0] rfl)
      · replace h := h.2 c_17
        refine lv_null hx hb dX5_cueFor_46 ?_
        exact q_aret (o := none) C hp hr (Or.inl ⟨_, rfl⟩) h dX5_cueFor_47
  have j28 : ∀ (a0 : Nat) (a1 : Nat) (x2 : Int32) (S : q_S) (H : Heap) (locs : List Loc) (ls : Array Slot), wX5_cueFor_b28 Q a0 a1 x2 S → q_P D g A s.heap S H locs → q_l ls 8 [(0, .ref a0), (1, .ref a1), (2, .int x2)] → W p l e rmX5_cueFor s m args below meth c H locs 0 0 (MQ below (va_Qq Q (q_B D g A) A) args s rmX5_cueFor.cells rmX5_cueFor.slots A) (F0 m 28 ls []) := by
    intro a0 a1 x2 S H locs ls h hp hl
    unfold wX5_cueFor_b28 at h
    refine lv_iconst (v := 0) hx hb dX5_cueFor_28 (by decide) ?_
    exact j29 a0 a1 x2 (0 : Int32) _ _ _ _ h hp (q_sub hl [0, 1, 2] rfl)
  unfold wX5_cueFor at h
  replace h := h.2
  refine lv_aload_n hx hb dX5_cueFor_0 rfl (q_at hl 1 rfl) ?_
  refine q_nGR C hp h rfl iX5_cueFor_X6 (by decide) kX5_cueFor_45 dX5_cueFor_1 (fun r_18 h => ?_)
  refine lv_iload_n hx hb dX5_cueFor_4 rfl (q_at hl 2 rfl) ?_
  refine q_finI0 C hp (q_runV (As := [.int x2]) (rest := []) C hp (RX3_size l D g _ r_18 x2 _ h _) (cwV 1 C.2.2.2.2.1 gX5_cueFor_X3_size rfl rfl rfl (by decide +kernel) ⟨(Nat.le_of_ble_eq_true rfl), (Nat.le_of_ble_eq_true rfl)⟩) h.1 rfl rfl hl.1.1 rfl (Nat.le_of_ble_eq_true rfl) dX5_cueFor_5 ⟨(Nat.le_of_ble_eq_true rfl), (Nat.le_of_ble_eq_true rfl)⟩) rfl rfl (fun v_20 S_19 H locs h hp => ?_)
  refine lv_if_ne (tgt := 28) hx hb dX5_cueFor_8 (by decide) (fun c_21 => ?_) (fun c_21 => ?_)
  · replace h := h.1 c_21
    exact j28 a0 a1 x2 _ _ _ _ h hp (q_sub hl [0, 1, 2] rfl)
  · replace h := h.2 c_21
    refine lv_aload_n hx hb dX5_cueFor_11 rfl (q_at hl 1 rfl) ?_
    refine q_nGR C hp h rfl iX5_cueFor_X6 (by decide) kX5_cueFor_45 dX5_cueFor_12 (fun r_22 h => ?_)
    refine lv_iload_n hx hb dX5_cueFor_15 rfl (q_at hl 2 rfl) ?_
    refine lv_iconst (v := 1) hx hb dX5_cueFor_16 (by decide) ?_
    refine lv_iadd hx hb dX5_cueFor_17 ?_
    refine q_finI0 C hp (q_runV (As := [.int (x2 + (1 : Int32))]) (rest := []) C hp (RX3_size l D g _ r_22 (x2 + (1 : Int32)) _ h _) (cwV 1 C.2.2.2.2.1 gX5_cueFor_X3_size rfl rfl rfl (by decide +kernel) ⟨(Nat.le_of_ble_eq_true rfl), (Nat.le_of_ble_eq_true rfl)⟩) h.1 rfl rfl hl.1.1 rfl (Nat.le_of_ble_eq_true rfl) dX5_cueFor_18 ⟨(Nat.le_of_ble_eq_true rfl), (Nat.le_of_ble_eq_true rfl)⟩) rfl rfl (fun v_24 S_23 H locs h hp => ?_)
    refine lv_if_le (tgt := 28) hx hb dX5_cueFor_21 (by decide) (fun c_25 => ?_) (fun c_25 => ?_)
    · replace h := h.1 c_25
      exact j28 a0 a1 x2 _ _ _ _ h hp (q_sub hl [0, 1, 2] rfl)
    · replace h := h.2 c_25
      refine lv_iconst (v := 1) hx hb dX5_cueFor_24 (by decide) ?_
      refine lv_goto (tgt := 29) hx hb dX5_cueFor_25 (by decide) ?_
      exact j29 a0 a1 x2 (1 : Int32) _ _ _ _ h hp (q_sub hl [0, 1, 2] rfl)
theorem kX5_partOf_38 : Cond.fieldLinkNest RX5 38 (TX6 4).1 (TX6 4).2.1 (TX6 4).2.2.1 RX7 ∈ q_nest := by decide +kernel
theorem iX5_partOf_X6 : ∀ w ∈ u_ws RX6 TX6 5, w ∈ wsX5_partOf := by decide +kernel
set_option maxHeartbeats 4000000 in
set_option maxRecDepth 100000 in
theorem RX5_partOf (l : Launch) (D : va_G) (g : q_A) (S : q_S) (a0 : Nat) (x1 : Int32) (Q : Option Nat → q_S → Prop) (h : wX5_partOf a0 x1 Q S) : q_Mq l yX5_partOf wsX5_partOf rmX5_partOf D g [.ref a0, .int x1] S Q := by
  refine q_Mq.of (cc := cX5_partOf) (nL := 3) (rt := (.object "PartPages$Part")) (by decide +kernel) rfl (Nat.le_of_ble_eq_true rfl) rfl ?_
  intro p e s m args below meth c ls A C hr hnm hp hl
  have C : q_X p s m args meth c cX5_partOf 3 RX5 wsX5_partOf D g A := C
  have hx := C.1
  have hb := C.2.1
  have hl : q_l ls 3 [(0, .ref a0), (1, .int x1)] := hl
  unfold wX5_partOf at h
  replace h := h.2
  refine lv_aload_n hx hb dX5_partOf_0 rfl (q_at hl 0 rfl) ?_
  refine lv_iload_n hx hb dX5_partOf_1 rfl (q_at hl 1 rfl) ?_
  refine q_finQ0 C hp (q_runV (As := [.int x1]) (rest := []) C hp (RX5_voiceAt l D g _ a0 x1 _ h _) (cwV 1 C.2.2.2.2.1 gX5_partOf_X5_voiceAt rfl rfl rfl (by decide +kernel) ⟨(Nat.le_of_ble_eq_true rfl), (Nat.le_of_ble_eq_true rfl)⟩) h.1 rfl rfl hl.1.1 rfl (Nat.le_of_ble_eq_true rfl) dX5_partOf_2 ⟨(Nat.le_of_ble_eq_true rfl), (Nat.le_of_ble_eq_true rfl)⟩) rfl rfl (fun o_2 S_1 H locs h hp => ?_)
  refine q_astn (o := o_2) (lv' := [(2, va_rf o_2), (0, .ref a0), (1, .int x1)]) hx hb dX5_partOf_5 rfl hl (by decide) rfl (fun ls hl => ?_)
  refine q_aload_n (o := o_2) hx hb dX5_partOf_6 rfl (q_at hl 0 rfl) ?_
  refine q_ifnonnull (o := o_2) (tgt := 14) hx hb dX5_partOf_7 (by decide) (fun c_4 => ?_) (fun a_3 c_4 => ?_)
  · replace h := h.1 c_4
    subst c_4
    refine lv_null hx hb dX5_partOf_10 ?_
    refine lv_goto (tgt := 18) hx hb dX5_partOf_11 (by decide) ?_
    exact q_aret (o := none) C hp hr (Or.inl ⟨_, rfl⟩) h dX5_partOf_18
  · replace h := h.2 a_3 c_4
    subst c_4
    refine lv_aload_n hx hb dX5_partOf_14 rfl (q_at hl 0 rfl) ?_
    refine q_nGO C hp h rfl iX5_partOf_X6 (by decide) kX5_partOf_38 dX5_partOf_15 (fun o_5 h => ?_)
    exact q_aret (o := o_5) C hp hr (Or.inl ⟨_, rfl⟩) h dX5_partOf_18
theorem kX5_noteTotal_45 : Cond.fieldLinkNest RX5 45 (TX6 1).1 (TX6 1).2.1 (TX6 1).2.2.1 RX7 ∈ q_nest := by decide +kernel
theorem iX5_noteTotal_X6 : ∀ w ∈ u_ws RX6 TX6 5, w ∈ wsX5_noteTotal := by decide +kernel
set_option maxHeartbeats 4000000 in
set_option maxRecDepth 100000 in
theorem RX5_noteTotal (l : Launch) (D : va_G) (g : q_A) (S : q_S) (a0 : Nat) (Q : Int32 → q_S → Prop) (h : wX5_noteTotal a0 Q S) : q_Mi l yX5_noteTotal wsX5_noteTotal rmX5_noteTotal D g [.ref a0] S Q := by
  refine q_Mi.of (cc := cX5_noteTotal) (nL := 4) (rt := .int) (by decide +kernel) rfl (Nat.le_of_ble_eq_true rfl) rfl ?_
  intro p e s m args below meth c ls A C hr hnm hp hl
  have C : q_X p s m args meth c cX5_noteTotal 4 RX5 wsX5_noteTotal D g A := C
  have hx := C.1
  have hb := C.2.1
  have hl : q_l ls 4 [(0, .ref a0)] := hl
  have j30 : ∀ (k4 : Nat → Int32 → Int32 → q_S → Prop) (ih4 : ∀ (a0 : Nat) (x1 : Int32) (x2 : Int32) (S : q_S) (H : Heap) (locs : List Loc) (ls : Array Slot), k4 a0 x1 x2 S → q_P D g A s.heap S H locs → q_l ls 4 [(0, .ref a0), (1, .int x1), (2, .int x2)] → W p l e rmX5_noteTotal s m args below meth c H locs 0 0 (MQ below (va_Qi Q (q_B D g A) A) args s rmX5_noteTotal.cells rmX5_noteTotal.slots A) (F0 m 4 ls [])) (a0 : Nat) (x1 : Int32) (x2 : Int32) (S : q_S) (H : Heap) (locs : List Loc) (ls : Array Slot), wX5_noteTotal_b30 Q k4 a0 x1 x2 S → q_P D g A s.heap S H locs → q_l ls 4 [(0, .ref a0), (1, .int x1), (2, .int x2)] → W p l e rmX5_noteTotal s m args below meth c H locs 0 0 (MQ below (va_Qi Q (q_B D g A) A) args s rmX5_noteTotal.cells rmX5_noteTotal.slots A) (F0 m 30 ls []) := by
    intro k4 ih4 a0 x1 x2 S H locs ls h hp hl
    unfold wX5_noteTotal_b30 at h
    refine q_inc (x := x2) (v := (x2 + (1 : Int32))) (lv' := [(2, .int (x2 + (1 : Int32))), (0, .ref a0), (1, .int x1)]) hx hb dX5_noteTotal_30 hl (k := 2) rfl rfl (by decide) rfl (fun ls hl => ?_)
    refine lv_goto (tgt := 4) hx hb dX5_noteTotal_33 (by decide) ?_
    exact ih4 a0 x1 (x2 + (1 : Int32)) _ _ _ _ h hp (q_sub hl [1, 2, 0] rfl)
  have j4 : ∀ (n : Nat), ∀ (a0 : Nat) (x1 : Int32) (x2 : Int32) (S : q_S) (H : Heap) (locs : List Loc) (ls : Array Slot), lX5_noteTotal_b4 Q n a0 x1 x2 S → q_P D g A s.heap S H locs → q_l ls 4 [(0, .ref a0), (1, .int x1), (2, .int x2)] → W p l e rmX5_noteTotal s m args below meth c H locs 0 0 (MQ below (va_Qi Q (q_B D g A) A) args s rmX5_noteTotal.cells rmX5_noteTotal.slots A) (F0 m 4 ls []) := by
    intro n
    induction n with
    | zero => intro a0 x1 x2 S H locs ls h; exact absurd h (fun h => h)
    | succ n ih4 =>
      intro a0 x1 x2 S H locs ls h hp hl
      have h : wX5_noteTotal_b4 Q (lX5_noteTotal_b4 Q n) a0 x1 x2 S := h
      unfold wX5_noteTotal_b4 at h
      refine lv_iload_n hx hb dX5_noteTotal_4 rfl (q_at hl 2 rfl) ?_
      refine lv_bipush (v := 6) hx hb dX5_noteTotal_5 (by decide) ?_
      refine lv_icmp_ge (tgt := 36) hx hb dX5_noteTotal_7 (by decide) (fun c_1 => ?_) (fun c_1 => ?_)
      · replace h := h.1 c_1
        refine lv_iload_n hx hb dX5_noteTotal_36 rfl (q_at hl 1 rfl) ?_
        exact q_iret C hp hr h dX5_noteTotal_37
      · replace h := h.2 c_1
        refine lv_aload_n hx hb dX5_noteTotal_10 rfl (q_at hl 0 rfl) ?_
        refine lv_iload_n hx hb dX5_noteTotal_11 rfl (q_at hl 2 rfl) ?_
        refine q_finQ0 C hp (q_runV (As := [.int x2]) (rest := []) C hp (RX5_voiceAt l D g _ a0 x2 _ h _) (cwV 1 C.2.2.2.2.1 gX5_noteTotal_X5_voiceAt rfl rfl rfl (by decide +kernel) ⟨(Nat.le_of_ble_eq_true rfl), (Nat.le_of_ble_eq_true rfl)⟩) h.1 rfl rfl hl.1.1 rfl (Nat.le_of_ble_eq_true rfl) dX5_noteTotal_12 ⟨(Nat.le_of_ble_eq_true rfl), (Nat.le_of_ble_eq_true rfl)⟩) rfl rfl (fun o_3 S_2 H locs h hp => ?_)
        refine q_astn (o := o_3) (lv' := [(3, va_rf o_3), (0, .ref a0), (1, .int x1), (2, .int x2)]) hx hb dX5_noteTotal_15 rfl hl (by decide) rfl (fun ls hl => ?_)
        refine q_aload_n (o := o_3) hx hb dX5_noteTotal_16 rfl (q_at hl 0 rfl) ?_
        refine q_ifnull (o := o_3) (tgt := 30) hx hb dX5_noteTotal_17 (by decide) (fun c_5 => ?_) (fun a_4 c_5 => ?_)
        · replace h := h.1 c_5
          subst c_5
          exact j30 (lX5_noteTotal_b4 Q n) ih4 a0 x1 x2 _ _ _ _ h hp (q_sub hl [1, 2, 3] rfl)
        · replace h := h.2 a_4 c_5
          subst c_5
          refine lv_iload_n hx hb dX5_noteTotal_20 rfl (q_at hl 2 rfl) ?_
          refine lv_aload_n hx hb dX5_noteTotal_21 rfl (q_at hl 0 rfl) ?_
          refine q_nGR C hp h rfl iX5_noteTotal_X6 (by decide) kX5_noteTotal_45 dX5_noteTotal_22 (fun r_6 h => ?_)
          refine q_finI0 C hp (q_runV (As := []) (rest := [.int x1]) C hp (RX3_total l D g _ r_6 _ h _) (cwV 0 C.2.2.2.2.1 gX5_noteTotal_X3_total rfl rfl rfl (by decide +kernel) ⟨(Nat.le_of_ble_eq_true rfl), (Nat.le_of_ble_eq_true rfl)⟩) h.1 rfl rfl hl.1.1 rfl (Nat.le_of_ble_eq_true rfl) dX5_noteTotal_25 ⟨(Nat.le_of_ble_eq_true rfl), (Nat.le_of_ble_eq_true rfl)⟩) rfl rfl (fun v_8 S_7 H locs h hp => ?_)
          refine lv_iadd hx hb dX5_noteTotal_28 ?_
          refine q_istn (lv' := [(1, .int (x1 + v_8)), (3, .ref a_4), (0, .ref a0), (2, .int x2)]) hx hb dX5_noteTotal_29 rfl hl (by decide) rfl (fun ls hl => ?_)
          exact j30 (lX5_noteTotal_b4 Q n) ih4 a0 (x1 + v_8) x2 _ _ _ _ h hp (q_sub hl [2, 0, 3] rfl)
  unfold wX5_noteTotal at h
  replace h := h.2
  refine lv_iconst (v := 0) hx hb dX5_noteTotal_0 (by decide) ?_
  refine q_istn (lv' := [(1, .int (0 : Int32)), (0, .ref a0)]) hx hb dX5_noteTotal_1 rfl hl (by decide) rfl (fun ls hl => ?_)
  refine lv_iconst (v := 0) hx hb dX5_noteTotal_2 (by decide) ?_
  refine q_istn (lv' := [(2, .int (0 : Int32)), (1, .int (0 : Int32)), (0, .ref a0)]) hx hb dX5_noteTotal_3 rfl hl (by decide) rfl (fun ls hl => ?_)
  exact j4 q_fuel a0 (0 : Int32) (0 : Int32) _ _ _ _ h hp (q_sub hl [2, 1, 0] rfl)

set_option maxHeartbeats 4000000 in
set_option maxRecDepth 100000 in
theorem RX5_partTotal (l : Launch) (D : va_G) (g : q_A) (S : q_S) (a0 : Nat) (Q : Int32 → q_S → Prop) (h : wX5_partTotal a0 Q S) : q_Mi l yX5_partTotal wsX5_partTotal rmX5_partTotal D g [.ref a0] S Q := by
  refine q_Mi.of (cc := cX5_partTotal) (nL := 3) (rt := .int) (by decide +kernel) rfl (Nat.le_of_ble_eq_true rfl) rfl ?_
  intro p e s m args below meth c ls A C hr hnm hp hl
  have C : q_X p s m args meth c cX5_partTotal 3 RX5 wsX5_partTotal D g A := C
  have hx := C.1
  have hb := C.2.1
  have hl : q_l ls 3 [(0, .ref a0)] := hl
  have j21 : ∀ (k4 : Nat → Int32 → Int32 → q_S → Prop) (ih4 : ∀ (a0 : Nat) (x1 : Int32) (x2 : Int32) (S : q_S) (H : Heap) (locs : List Loc) (ls : Array Slot), k4 a0 x1 x2 S → q_P D g A s.heap S H locs → q_l ls 3 [(0, .ref a0), (1, .int x1), (2, .int x2)] → W p l e rmX5_partTotal s m args below meth c H locs 0 0 (MQ below (va_Qi Q (q_B D g A) A) args s rmX5_partTotal.cells rmX5_partTotal.slots A) (F0 m 4 ls [])) (a0 : Nat) (x1 : Int32) (x2 : Int32) (S : q_S) (H : Heap) (locs : List Loc) (ls : Array Slot), wX5_partTotal_b21 Q k4 a0 x1 x2 S → q_P D g A s.heap S H locs → q_l ls 3 [(0, .ref a0), (1, .int x1), (2, .int x2)] → W p l e rmX5_partTotal s m args below meth c H locs 0 0 (MQ below (va_Qi Q (q_B D g A) A) args s rmX5_partTotal.cells rmX5_partTotal.slots A) (F0 m 21 ls []) := by
    intro k4 ih4 a0 x1 x2 S H locs ls h hp hl
    unfold wX5_partTotal_b21 at h
    refine q_inc (x := x2) (v := (x2 + (1 : Int32))) (lv' := [(2, .int (x2 + (1 : Int32))), (0, .ref a0), (1, .int x1)]) hx hb dX5_partTotal_21 hl (k := 2) rfl rfl (by decide) rfl (fun ls hl => ?_)
    refine lv_goto (tgt := 4) hx hb dX5_partTotal_24 (by decide) ?_
    exact ih4 a0 x1 (x2 + (1 : Int32)) _ _ _ _ h hp (q_sub hl [1, 2, 0] rfl)
  have j4 : ∀ (n : Nat), ∀ (a0 : Nat) (x1 : Int32) (x2 : Int32) (S : q_S) (H : Heap) (locs : List Loc) (ls : Array Slot), lX5_partTotal_b4 Q n a0 x1 x2 S → q_P D g A s.heap S H locs → q_l ls 3 [(0, .ref a0), (1, .int x1), (2, .int x2)] → W p l e rmX5_partTotal s m args below meth c H locs 0 0 (MQ below (va_Qi Q (q_B D g A) A) args s rmX5_partTotal.cells rmX5_partTotal.slots A) (F0 m 4 ls []) := by
    intro n
    induction n with
    | zero => intro a0 x1 x2 S H locs ls h; exact absurd h (fun h => h)
    | succ n ih4 =>
      intro a0 x1 x2 S H locs ls h hp hl
      have h : wX5_partTotal_b4 Q (lX5_partTotal_b4 Q n) a0 x1 x2 S := h
      unfold wX5_partTotal_b4 at h
      refine lv_iload_n hx hb dX5_partTotal_4 rfl (q_at hl 2 rfl) ?_
      refine lv_bipush (v := 6) hx hb dX5_partTotal_5 (by decide) ?_
      refine lv_icmp_ge (tgt := 27) hx hb dX5_partTotal_7 (by decide) (fun c_1 => ?_) (fun c_1 => ?_)
      · replace h := h.1 c_1
        refine lv_iload_n hx hb dX5_partTotal_27 rfl (q_at hl 1 rfl) ?_
        exact q_iret C hp hr h dX5_partTotal_28
      · replace h := h.2 c_1
        refine lv_aload_n hx hb dX5_partTotal_10 rfl (q_at hl 0 rfl) ?_
        refine lv_iload_n hx hb dX5_partTotal_11 rfl (q_at hl 2 rfl) ?_
        refine q_finQ0 C hp (q_runV (As := [.int x2]) (rest := []) C hp (RX5_partOf l D g _ a0 x2 _ h _) (cwV 1 C.2.2.2.2.1 gX5_partTotal_X5_partOf rfl rfl rfl (by decide +kernel) ⟨(Nat.le_of_ble_eq_true rfl), (Nat.le_of_ble_eq_true rfl)⟩) h.1 rfl rfl hl.1.1 rfl (Nat.le_of_ble_eq_true rfl) dX5_partTotal_12 ⟨(Nat.le_of_ble_eq_true rfl), (Nat.le_of_ble_eq_true rfl)⟩) rfl rfl (fun o_3 S_2 H locs h hp => ?_)
        refine q_ifnull (o := o_3) (tgt := 21) hx hb dX5_partTotal_15 (by decide) (fun c_5 => ?_) (fun a_4 c_5 => ?_)
        · replace h := h.1 c_5
          subst c_5
          exact j21 (lX5_partTotal_b4 Q n) ih4 a0 x1 x2 _ _ _ _ h hp (q_sub hl [0, 1, 2] rfl)
        · replace h := h.2 a_4 c_5
          subst c_5
          refine q_inc (x := x1) (v := (x1 + (1 : Int32))) (lv' := [(1, .int (x1 + (1 : Int32))), (0, .ref a0), (2, .int x2)]) hx hb dX5_partTotal_18 hl (k := 1) rfl rfl (by decide) rfl (fun ls hl => ?_)
          exact j21 (lX5_partTotal_b4 Q n) ih4 a0 (x1 + (1 : Int32)) x2 _ _ _ _ h hp (q_sub hl [1, 0, 2] rfl)
  unfold wX5_partTotal at h
  replace h := h.2
  refine lv_iconst (v := 0) hx hb dX5_partTotal_0 (by decide) ?_
  refine q_istn (lv' := [(1, .int (0 : Int32)), (0, .ref a0)]) hx hb dX5_partTotal_1 rfl hl (by decide) rfl (fun ls hl => ?_)
  refine lv_iconst (v := 0) hx hb dX5_partTotal_2 (by decide) ?_
  refine q_istn (lv' := [(2, .int (0 : Int32)), (1, .int (0 : Int32)), (0, .ref a0)]) hx hb dX5_partTotal_3 rfl hl (by decide) rfl (fun ls hl => ?_)
  exact j4 q_fuel a0 (0 : Int32) (0 : Int32) _ _ _ _ h hp (q_sub hl [2, 1, 0] rfl)
