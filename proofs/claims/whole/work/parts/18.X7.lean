set_option maxRecDepth 20000 in
theorem ggX7_init_X5_init : GoodIn wsX7_init wsX5_init := goodIn_r _ [20, 21, 2, 3, 22, 23, 24, 25, 26, 27, 28, 29, 30, 31, 32, 33, 34, 35, 36, 37, 38, 57, 58, 59, 60, 61, 75] (by decide +kernel) (by decide +kernel)
set_option maxRecDepth 20000 in
theorem gX7_init_X5_init_n9 : GoodIn wsX7_init (wsX5_init) := ggX7_init_X5_init
set_option maxRecDepth 20000 in
theorem ggX7_init_X1_init : GoodIn wsX7_init wsX1_init := goodIn_r _ [40, 41, 2, 3, 33, 42, 43, 68, 69, 70, 71] (by decide +kernel) (by decide +kernel)
set_option maxRecDepth 20000 in
theorem gX7_init_X1_init_n18 : GoodIn wsX7_init (wsX1_init) := ggX7_init_X1_init
set_option maxRecDepth 20000 in
theorem ggX7_init_X4_init : GoodIn wsX7_init wsX4_init := goodIn_r _ [45, 46, 2, 3, 33, 47, 48, 49, 50, 51, 52, 53, 54, 55, 56, 72, 73, 74, 76, 77] (by decide +kernel) (by decide +kernel)
set_option maxRecDepth 20000 in
theorem gX7_init_X4_init_n28 : GoodIn wsX7_init (wsX4_init) := ggX7_init_X4_init
theorem dX7_init_0 : decode cX7_init 0 = .ok (.aload_n 0, 1) := by decide +kernel
theorem dX7_init_1 : decode cX7_init 1 = .ok (.invokespecial 1, 3) := by decide +kernel
theorem dX7_init_4 : decode cX7_init 4 = .ok (.aload_n 0, 1) := by decide +kernel
theorem dX7_init_5 : decode cX7_init 5 = .ok (.new 7, 3) := by decide +kernel
theorem dX7_init_8 : decode cX7_init 8 = .ok (.dup, 1) := by decide +kernel
theorem dX7_init_9 : decode cX7_init 9 = .ok (.invokespecial 9, 3) := by decide +kernel
theorem dX7_init_12 : decode cX7_init 12 = .ok (.putfield 10, 3) := by decide +kernel
theorem dX7_init_15 : decode cX7_init 15 = .ok (.aload_n 0, 1) := by decide +kernel
theorem dX7_init_16 : decode cX7_init 16 = .ok (.new 16, 3) := by decide +kernel
theorem dX7_init_19 : decode cX7_init 19 = .ok (.dup, 1) := by decide +kernel
theorem dX7_init_20 : decode cX7_init 20 = .ok (.invokespecial 18, 3) := by decide +kernel
theorem dX7_init_23 : decode cX7_init 23 = .ok (.putfield 19, 3) := by decide +kernel
theorem dX7_init_26 : decode cX7_init 26 = .ok (.aload_n 0, 1) := by decide +kernel
theorem dX7_init_27 : decode cX7_init 27 = .ok (.new 16, 3) := by decide +kernel
theorem dX7_init_30 : decode cX7_init 30 = .ok (.dup, 1) := by decide +kernel
theorem dX7_init_31 : decode cX7_init 31 = .ok (.invokespecial 18, 3) := by decide +kernel
theorem dX7_init_34 : decode cX7_init 34 = .ok (.putfield 23, 3) := by decide +kernel
theorem dX7_init_37 : decode cX7_init 37 = .ok (.aload_n 0, 1) := by decide +kernel
theorem dX7_init_38 : decode cX7_init 38 = .ok (.new 26, 3) := by decide +kernel
theorem dX7_init_41 : decode cX7_init 41 = .ok (.dup, 1) := by decide +kernel
theorem dX7_init_42 : decode cX7_init 42 = .ok (.invokespecial 28, 3) := by decide +kernel
theorem dX7_init_45 : decode cX7_init 45 = .ok (.putfield 29, 3) := by decide +kernel
theorem dX7_init_48 : decode cX7_init 48 = .ok (.aload_n 0, 1) := by decide +kernel
theorem dX7_init_49 : decode cX7_init 49 = .ok (.bipush 24, 2) := by decide +kernel
theorem dX7_init_51 : decode cX7_init 51 = .ok (.putfield 33, 3) := by decide +kernel
theorem dX7_init_54 : decode cX7_init 54 = .ok (.aload_n 0, 1) := by decide +kernel
theorem dX7_init_55 : decode cX7_init 55 = .ok (.iconst 4, 1) := by decide +kernel
theorem dX7_init_56 : decode cX7_init 56 = .ok (.putfield 37, 3) := by decide +kernel
theorem dX7_init_59 : decode cX7_init 59 = .ok (.return_, 1) := by decide +kernel
set_option maxRecDepth 20000 in
theorem ggX7_voice_X5_addVoice : GoodIn wsX7_voice wsX5_addVoice := goodIn_r _ [6, 7, 8, 9, 10, 11, 12, 13, 14, 15, 16, 17, 18, 19, 20, 21, 22, 23, 24, 25, 26, 27, 28, 35, 36, 37, 38, 39, 40, 41, 42, 43, 44, 45, 46] (by decide +kernel) (by decide +kernel)
set_option maxRecDepth 20000 in
theorem gX7_voice_X5_addVoice : GoodIn wsX7_voice (wsV RX7 40 RX5 yX5_addVoice wsX5_addVoice) := goodIn_app (goodIn_of _ (by decide +kernel)) ggX7_voice_X5_addVoice
theorem dX7_voice_0 : decode cX7_voice 0 = .ok (.aload_n 0, 1) := by decide +kernel
theorem dX7_voice_1 : decode cX7_voice 1 = .ok (.getfield 10, 3) := by decide +kernel
theorem dX7_voice_4 : decode cX7_voice 4 = .ok (.invokevirtual 40, 3) := by decide +kernel
theorem dX7_voice_7 : decode cX7_voice 7 = .ok (.ireturn, 1) := by decide +kernel
set_option maxRecDepth 20000 in
theorem ggX7_bars_X7_isWithin : GoodIn wsX7_bars wsX7_isWithin := goodIn_r _ [5] (by decide +kernel) (by decide +kernel)
set_option maxRecDepth 20000 in
theorem gX7_bars_X7_isWithin : GoodIn wsX7_bars (va_wsS RX7 44 yX7_isWithin wsX7_isWithin) := goodIn_app (goodIn_of _ (by decide +kernel)) ggX7_bars_X7_isWithin
set_option maxRecDepth 20000 in
theorem ggX7_bars_X5_resize : GoodIn wsX7_bars wsX5_resize := goodIn_r _ [10, 11, 12, 13, 14, 15, 9, 16, 17, 18, 19, 20, 21, 22, 23, 24, 25, 26, 27, 28, 29, 30, 31, 32, 33, 34, 35, 36, 37, 38, 39, 40, 41, 48, 49, 50, 51, 52, 53, 54, 55, 56, 57, 58, 59, 60] (by decide +kernel) (by decide +kernel)
set_option maxRecDepth 20000 in
theorem gX7_bars_X5_resize : GoodIn wsX7_bars (wsV RX7 48 RX5 yX5_resize wsX5_resize) := goodIn_app (goodIn_of _ (by decide +kernel)) ggX7_bars_X5_resize
theorem dX7_bars_0 : decode cX7_bars 0 = .ok (.iload_n 1, 1) := by decide +kernel
theorem dX7_bars_1 : decode cX7_bars 1 = .ok (.iconst 0, 1) := by decide +kernel
theorem dX7_bars_2 : decode cX7_bars 2 = .ok (.bipush 40, 2) := by decide +kernel
theorem dX7_bars_4 : decode cX7_bars 4 = .ok (.invokestatic 44, 3) := by decide +kernel
theorem dX7_bars_7 : decode cX7_bars 7 = .ok (.ifCond .ne 6, 3) := by decide +kernel
theorem dX7_bars_10 : decode cX7_bars 10 = .ok (.bipush (-102), 2) := by decide +kernel
theorem dX7_bars_12 : decode cX7_bars 12 = .ok (.ireturn, 1) := by decide +kernel
theorem dX7_bars_13 : decode cX7_bars 13 = .ok (.aload_n 0, 1) := by decide +kernel
theorem dX7_bars_14 : decode cX7_bars 14 = .ok (.getfield 10, 3) := by decide +kernel
theorem dX7_bars_17 : decode cX7_bars 17 = .ok (.iload_n 1, 1) := by decide +kernel
theorem dX7_bars_18 : decode cX7_bars 18 = .ok (.invokevirtual 48, 3) := by decide +kernel
theorem dX7_bars_21 : decode cX7_bars 21 = .ok (.ireturn, 1) := by decide +kernel
set_option maxRecDepth 20000 in
theorem ggX7_note_X5_voiceAt : GoodIn wsX7_note wsX5_voiceAt := goodIn_r _ [6, 7, 66, 67, 68, 69, 70] (by decide +kernel) (by decide +kernel)
set_option maxRecDepth 20000 in
theorem gX7_note_X5_voiceAt : GoodIn wsX7_note (wsV RX7 52 RX5 yX5_voiceAt wsX5_voiceAt) := goodIn_app (goodIn_of _ (by decide +kernel)) ggX7_note_X5_voiceAt
set_option maxRecDepth 20000 in
theorem ggX7_note_X5_hasBar : GoodIn wsX7_note wsX5_hasBar := goodIn_r _ [11, 12, 66, 67, 68, 69, 70] (by decide +kernel) (by decide +kernel)
set_option maxRecDepth 20000 in
theorem gX7_note_X5_hasBar : GoodIn wsX7_note (wsV RX7 56 RX5 yX5_hasBar wsX5_hasBar) := goodIn_app (goodIn_of _ (by decide +kernel)) ggX7_note_X5_hasBar
set_option maxRecDepth 20000 in
theorem ggX7_note_X7_isNote : GoodIn wsX7_note wsX7_isNote := goodIn_r _ [16, 17, 18, 15, 19, 20, 21, 22, 23] (by decide +kernel) (by decide +kernel)
set_option maxRecDepth 20000 in
theorem gX7_note_X7_isNote : GoodIn wsX7_note (va_wsS RX7 60 yX7_isNote wsX7_isNote) := goodIn_app (goodIn_of _ (by decide +kernel)) ggX7_note_X7_isNote
set_option maxRecDepth 20000 in
theorem ggX7_note_X3_hasAt : GoodIn wsX7_note wsX3_hasAt := goodIn_r _ [28, 29, 30, 31, 27, 32, 33, 34, 35, 36, 37, 38, 71, 72] (by decide +kernel) (by decide +kernel)
set_option maxRecDepth 20000 in
theorem gX7_note_X3_hasAt : GoodIn wsX7_note (wsV RX7 70 RX3 yX3_hasAt wsX3_hasAt) := goodIn_app (goodIn_of _ (by decide +kernel)) ggX7_note_X3_hasAt
set_option maxRecDepth 20000 in
theorem ggX7_note_X3_size : GoodIn wsX7_note wsX3_size := goodIn_r _ [32, 33, 71, 72] (by decide +kernel) (by decide +kernel)
set_option maxRecDepth 20000 in
theorem gX7_note_X3_size : GoodIn wsX7_note (wsV RX7 75 RX3 yX3_size wsX3_size) := goodIn_app (goodIn_of _ (by decide +kernel)) ggX7_note_X3_size
set_option maxRecDepth 20000 in
theorem ggX7_note_X3_insert : GoodIn wsX7_note wsX3_insert := goodIn_r _ [43, 38, 44, 45, 46, 47, 33, 29, 30, 31, 27, 32, 48, 49, 50, 51, 34, 35, 36, 37, 52, 53, 54, 71, 72] (by decide +kernel) (by decide +kernel)
set_option maxRecDepth 20000 in
theorem gX7_note_X3_insert : GoodIn wsX7_note (wsV RX7 78 RX3 yX3_insert wsX3_insert) := goodIn_app (goodIn_of _ (by decide +kernel)) ggX7_note_X3_insert
theorem dX7_note_0 : decode cX7_note 0 = .ok (.aload_n 0, 1) := by decide +kernel
theorem dX7_note_1 : decode cX7_note 1 = .ok (.getfield 10, 3) := by decide +kernel
theorem dX7_note_4 : decode cX7_note 4 = .ok (.iload_n 1, 1) := by decide +kernel
theorem dX7_note_5 : decode cX7_note 5 = .ok (.invokevirtual 52, 3) := by decide +kernel
theorem dX7_note_8 : decode cX7_note 8 = .ok (.astore 7, 2) := by decide +kernel
theorem dX7_note_10 : decode cX7_note 10 = .ok (.aload 7, 2) := by decide +kernel
theorem dX7_note_12 : decode cX7_note 12 = .ok (.ifnull 14, 3) := by decide +kernel
theorem dX7_note_15 : decode cX7_note 15 = .ok (.aload_n 0, 1) := by decide +kernel
theorem dX7_note_16 : decode cX7_note 16 = .ok (.getfield 10, 3) := by decide +kernel
theorem dX7_note_19 : decode cX7_note 19 = .ok (.iload_n 2, 1) := by decide +kernel
theorem dX7_note_20 : decode cX7_note 20 = .ok (.invokevirtual 56, 3) := by decide +kernel
theorem dX7_note_23 : decode cX7_note 23 = .ok (.ifCond .ne 6, 3) := by decide +kernel
theorem dX7_note_26 : decode cX7_note 26 = .ok (.bipush (-101), 2) := by decide +kernel
theorem dX7_note_28 : decode cX7_note 28 = .ok (.ireturn, 1) := by decide +kernel
theorem dX7_note_29 : decode cX7_note 29 = .ok (.iload_n 3, 1) := by decide +kernel
theorem dX7_note_30 : decode cX7_note 30 = .ok (.iload 4, 2) := by decide +kernel
theorem dX7_note_32 : decode cX7_note 32 = .ok (.iload 5, 2) := by decide +kernel
theorem dX7_note_34 : decode cX7_note 34 = .ok (.iload 6, 2) := by decide +kernel
theorem dX7_note_36 : decode cX7_note 36 = .ok (.invokestatic 60, 3) := by decide +kernel
theorem dX7_note_39 : decode cX7_note 39 = .ok (.ifCond .ne 6, 3) := by decide +kernel
theorem dX7_note_42 : decode cX7_note 42 = .ok (.bipush (-102), 2) := by decide +kernel
theorem dX7_note_44 : decode cX7_note 44 = .ok (.ireturn, 1) := by decide +kernel
theorem dX7_note_45 : decode cX7_note 45 = .ok (.aload 7, 2) := by decide +kernel
theorem dX7_note_47 : decode cX7_note 47 = .ok (.getfield 64, 3) := by decide +kernel
theorem dX7_note_50 : decode cX7_note 50 = .ok (.iload_n 2, 1) := by decide +kernel
theorem dX7_note_51 : decode cX7_note 51 = .ok (.iload_n 3, 1) := by decide +kernel
theorem dX7_note_52 : decode cX7_note 52 = .ok (.iload 5, 2) := by decide +kernel
theorem dX7_note_54 : decode cX7_note 54 = .ok (.invokevirtual 70, 3) := by decide +kernel
theorem dX7_note_57 : decode cX7_note 57 = .ok (.ifCond .eq 6, 3) := by decide +kernel
theorem dX7_note_60 : decode cX7_note 60 = .ok (.bipush (-103), 2) := by decide +kernel
theorem dX7_note_62 : decode cX7_note 62 = .ok (.ireturn, 1) := by decide +kernel
theorem dX7_note_63 : decode cX7_note 63 = .ok (.aload 7, 2) := by decide +kernel
theorem dX7_note_65 : decode cX7_note 65 = .ok (.getfield 64, 3) := by decide +kernel
theorem dX7_note_68 : decode cX7_note 68 = .ok (.iload_n 2, 1) := by decide +kernel
theorem dX7_note_69 : decode cX7_note 69 = .ok (.invokevirtual 75, 3) := by decide +kernel
theorem dX7_note_72 : decode cX7_note 72 = .ok (.bipush 8, 2) := by decide +kernel
theorem dX7_note_74 : decode cX7_note 74 = .ok (.if_icmp .lt 6, 3) := by decide +kernel
theorem dX7_note_77 : decode cX7_note 77 = .ok (.bipush (-104), 2) := by decide +kernel
theorem dX7_note_79 : decode cX7_note 79 = .ok (.ireturn, 1) := by decide +kernel
theorem dX7_note_80 : decode cX7_note 80 = .ok (.aload 7, 2) := by decide +kernel
theorem dX7_note_82 : decode cX7_note 82 = .ok (.getfield 64, 3) := by decide +kernel
theorem dX7_note_85 : decode cX7_note 85 = .ok (.iload_n 2, 1) := by decide +kernel
theorem dX7_note_86 : decode cX7_note 86 = .ok (.iload_n 3, 1) := by decide +kernel
theorem dX7_note_87 : decode cX7_note 87 = .ok (.iload 4, 2) := by decide +kernel
theorem dX7_note_89 : decode cX7_note 89 = .ok (.iload 5, 2) := by decide +kernel
theorem dX7_note_91 : decode cX7_note 91 = .ok (.iload 6, 2) := by decide +kernel
theorem dX7_note_93 : decode cX7_note 93 = .ok (.invokevirtual 78, 3) := by decide +kernel
theorem dX7_note_96 : decode cX7_note 96 = .ok (.aload 7, 2) := by decide +kernel
theorem dX7_note_98 : decode cX7_note 98 = .ok (.getfield 64, 3) := by decide +kernel
theorem dX7_note_101 : decode cX7_note 101 = .ok (.iload_n 2, 1) := by decide +kernel
theorem dX7_note_102 : decode cX7_note 102 = .ok (.invokevirtual 75, 3) := by decide +kernel
theorem dX7_note_105 : decode cX7_note 105 = .ok (.ireturn, 1) := by decide +kernel
set_option maxRecDepth 20000 in
theorem ggX7_drop_X5_voiceAt : GoodIn wsX7_drop wsX5_voiceAt := goodIn_r _ [6, 7, 38, 39, 40, 41, 42] (by decide +kernel) (by decide +kernel)
set_option maxRecDepth 20000 in
theorem gX7_drop_X5_voiceAt : GoodIn wsX7_drop (wsV RX7 52 RX5 yX5_voiceAt wsX5_voiceAt) := goodIn_app (goodIn_of _ (by decide +kernel)) ggX7_drop_X5_voiceAt
set_option maxRecDepth 20000 in
theorem ggX7_drop_X5_hasBar : GoodIn wsX7_drop wsX5_hasBar := goodIn_r _ [11, 12, 38, 39, 40, 41, 42] (by decide +kernel) (by decide +kernel)
set_option maxRecDepth 20000 in
theorem gX7_drop_X5_hasBar : GoodIn wsX7_drop (wsV RX7 56 RX5 yX5_hasBar wsX5_hasBar) := goodIn_app (goodIn_of _ (by decide +kernel)) ggX7_drop_X5_hasBar
set_option maxRecDepth 20000 in
theorem ggX7_drop_X3_size : GoodIn wsX7_drop wsX3_size := goodIn_r _ [17, 18, 43, 44] (by decide +kernel) (by decide +kernel)
set_option maxRecDepth 20000 in
theorem gX7_drop_X3_size : GoodIn wsX7_drop (wsV RX7 75 RX3 yX3_size wsX3_size) := goodIn_app (goodIn_of _ (by decide +kernel)) ggX7_drop_X3_size
set_option maxRecDepth 20000 in
theorem ggX7_drop_X3_clearFrom : GoodIn wsX7_drop wsX3_clearFrom := goodIn_r _ [22, 23, 24, 25, 26, 18, 43, 44] (by decide +kernel) (by decide +kernel)
set_option maxRecDepth 20000 in
theorem gX7_drop_X3_clearFrom : GoodIn wsX7_drop (wsV RX7 82 RX3 yX3_clearFrom wsX3_clearFrom) := goodIn_app (goodIn_of _ (by decide +kernel)) ggX7_drop_X3_clearFrom
theorem dX7_drop_0 : decode cX7_drop 0 = .ok (.aload_n 0, 1) := by decide +kernel
theorem dX7_drop_1 : decode cX7_drop 1 = .ok (.getfield 10, 3) := by decide +kernel
theorem dX7_drop_4 : decode cX7_drop 4 = .ok (.iload_n 1, 1) := by decide +kernel
theorem dX7_drop_5 : decode cX7_drop 5 = .ok (.invokevirtual 52, 3) := by decide +kernel
theorem dX7_drop_8 : decode cX7_drop 8 = .ok (.astore_n 3, 1) := by decide +kernel
theorem dX7_drop_9 : decode cX7_drop 9 = .ok (.aload_n 3, 1) := by decide +kernel
theorem dX7_drop_10 : decode cX7_drop 10 = .ok (.ifnull 14, 3) := by decide +kernel
theorem dX7_drop_13 : decode cX7_drop 13 = .ok (.aload_n 0, 1) := by decide +kernel
theorem dX7_drop_14 : decode cX7_drop 14 = .ok (.getfield 10, 3) := by decide +kernel
theorem dX7_drop_17 : decode cX7_drop 17 = .ok (.iload_n 2, 1) := by decide +kernel
theorem dX7_drop_18 : decode cX7_drop 18 = .ok (.invokevirtual 56, 3) := by decide +kernel
theorem dX7_drop_21 : decode cX7_drop 21 = .ok (.ifCond .ne 6, 3) := by decide +kernel
theorem dX7_drop_24 : decode cX7_drop 24 = .ok (.bipush (-101), 2) := by decide +kernel
theorem dX7_drop_26 : decode cX7_drop 26 = .ok (.ireturn, 1) := by decide +kernel
theorem dX7_drop_27 : decode cX7_drop 27 = .ok (.aload_n 3, 1) := by decide +kernel
theorem dX7_drop_28 : decode cX7_drop 28 = .ok (.getfield 64, 3) := by decide +kernel
theorem dX7_drop_31 : decode cX7_drop 31 = .ok (.iload_n 2, 1) := by decide +kernel
theorem dX7_drop_32 : decode cX7_drop 32 = .ok (.invokevirtual 75, 3) := by decide +kernel
theorem dX7_drop_35 : decode cX7_drop 35 = .ok (.istore 4, 2) := by decide +kernel
theorem dX7_drop_37 : decode cX7_drop 37 = .ok (.aload_n 3, 1) := by decide +kernel
theorem dX7_drop_38 : decode cX7_drop 38 = .ok (.getfield 64, 3) := by decide +kernel
theorem dX7_drop_41 : decode cX7_drop 41 = .ok (.iload_n 2, 1) := by decide +kernel
theorem dX7_drop_42 : decode cX7_drop 42 = .ok (.iload_n 2, 1) := by decide +kernel
theorem dX7_drop_43 : decode cX7_drop 43 = .ok (.iconst 1, 1) := by decide +kernel
theorem dX7_drop_44 : decode cX7_drop 44 = .ok (.iadd, 1) := by decide +kernel
theorem dX7_drop_45 : decode cX7_drop 45 = .ok (.invokevirtual 82, 3) := by decide +kernel
theorem dX7_drop_48 : decode cX7_drop 48 = .ok (.iload 4, 2) := by decide +kernel
theorem dX7_drop_50 : decode cX7_drop 50 = .ok (.ireturn, 1) := by decide +kernel
set_option maxRecDepth 20000 in
theorem ggX7_mark_X5_hasBar : GoodIn wsX7_mark wsX5_hasBar := goodIn_r _ [6, 7, 30, 31, 32, 33, 34] (by decide +kernel) (by decide +kernel)
set_option maxRecDepth 20000 in
theorem gX7_mark_X5_hasBar : GoodIn wsX7_mark (wsV RX7 56 RX5 yX5_hasBar wsX5_hasBar) := goodIn_app (goodIn_of _ (by decide +kernel)) ggX7_mark_X5_hasBar
set_option maxRecDepth 20000 in
theorem ggX7_mark_X7_isMark : GoodIn wsX7_mark wsX7_isMark := goodIn_r _ [11, 12, 13, 10, 14] (by decide +kernel) (by decide +kernel)
set_option maxRecDepth 20000 in
theorem gX7_mark_X7_isMark : GoodIn wsX7_mark (va_wsS RX7 86 yX7_isMark wsX7_isMark) := goodIn_app (goodIn_of _ (by decide +kernel)) ggX7_mark_X7_isMark
set_option maxRecDepth 20000 in
theorem ggX7_mark_X2_replace : GoodIn wsX7_mark wsX2_replace := goodIn_r _ [19, 20, 21, 22, 18, 23, 35] (by decide +kernel) (by decide +kernel)
set_option maxRecDepth 20000 in
theorem gX7_mark_X2_replace : GoodIn wsX7_mark (wsV RX7 94 RX2 yX2_replace wsX2_replace) := goodIn_app (goodIn_of _ (by decide +kernel)) ggX7_mark_X2_replace
theorem dX7_mark_0 : decode cX7_mark 0 = .ok (.aload_n 0, 1) := by decide +kernel
theorem dX7_mark_1 : decode cX7_mark 1 = .ok (.getfield 10, 3) := by decide +kernel
theorem dX7_mark_4 : decode cX7_mark 4 = .ok (.iload_n 1, 1) := by decide +kernel
theorem dX7_mark_5 : decode cX7_mark 5 = .ok (.invokevirtual 56, 3) := by decide +kernel
theorem dX7_mark_8 : decode cX7_mark 8 = .ok (.ifCond .ne 6, 3) := by decide +kernel
theorem dX7_mark_11 : decode cX7_mark 11 = .ok (.bipush (-101), 2) := by decide +kernel
theorem dX7_mark_13 : decode cX7_mark 13 = .ok (.ireturn, 1) := by decide +kernel
theorem dX7_mark_14 : decode cX7_mark 14 = .ok (.iload_n 2, 1) := by decide +kernel
theorem dX7_mark_15 : decode cX7_mark 15 = .ok (.iload_n 3, 1) := by decide +kernel
theorem dX7_mark_16 : decode cX7_mark 16 = .ok (.invokestatic 86, 3) := by decide +kernel
theorem dX7_mark_19 : decode cX7_mark 19 = .ok (.ifCond .ne 6, 3) := by decide +kernel
theorem dX7_mark_22 : decode cX7_mark 22 = .ok (.bipush (-102), 2) := by decide +kernel
theorem dX7_mark_24 : decode cX7_mark 24 = .ok (.ireturn, 1) := by decide +kernel
theorem dX7_mark_25 : decode cX7_mark 25 = .ok (.aload_n 0, 1) := by decide +kernel
theorem dX7_mark_26 : decode cX7_mark 26 = .ok (.getfield 10, 3) := by decide +kernel
theorem dX7_mark_29 : decode cX7_mark 29 = .ok (.getfield 90, 3) := by decide +kernel
theorem dX7_mark_32 : decode cX7_mark 32 = .ok (.iload_n 1, 1) := by decide +kernel
theorem dX7_mark_33 : decode cX7_mark 33 = .ok (.iload_n 2, 1) := by decide +kernel
theorem dX7_mark_34 : decode cX7_mark 34 = .ok (.iload_n 3, 1) := by decide +kernel
theorem dX7_mark_35 : decode cX7_mark 35 = .ok (.invokevirtual 94, 3) := by decide +kernel
theorem dX7_mark_38 : decode cX7_mark 38 = .ok (.ireturn, 1) := by decide +kernel
set_option maxRecDepth 20000 in
theorem ggX7_unmark_X5_hasBar : GoodIn wsX7_unmark wsX5_hasBar := goodIn_r _ [6, 7, 27, 28, 29, 30, 31] (by decide +kernel) (by decide +kernel)
set_option maxRecDepth 20000 in
theorem gX7_unmark_X5_hasBar : GoodIn wsX7_unmark (wsV RX7 56 RX5 yX5_hasBar wsX5_hasBar) := goodIn_app (goodIn_of _ (by decide +kernel)) ggX7_unmark_X5_hasBar
set_option maxRecDepth 20000 in
theorem ggX7_unmark_X7_isWithin : GoodIn wsX7_unmark wsX7_isWithin := goodIn_r _ [11] (by decide +kernel) (by decide +kernel)
set_option maxRecDepth 20000 in
theorem gX7_unmark_X7_isWithin : GoodIn wsX7_unmark (va_wsS RX7 44 yX7_isWithin wsX7_isWithin) := goodIn_app (goodIn_of _ (by decide +kernel)) ggX7_unmark_X7_isWithin
set_option maxRecDepth 20000 in
theorem ggX7_unmark_X2_replace : GoodIn wsX7_unmark wsX2_replace := goodIn_r _ [16, 17, 18, 19, 15, 20, 32] (by decide +kernel) (by decide +kernel)
set_option maxRecDepth 20000 in
theorem gX7_unmark_X2_replace : GoodIn wsX7_unmark (wsV RX7 94 RX2 yX2_replace wsX2_replace) := goodIn_app (goodIn_of _ (by decide +kernel)) ggX7_unmark_X2_replace
theorem dX7_unmark_0 : decode cX7_unmark 0 = .ok (.aload_n 0, 1) := by decide +kernel
theorem dX7_unmark_1 : decode cX7_unmark 1 = .ok (.getfield 10, 3) := by decide +kernel
theorem dX7_unmark_4 : decode cX7_unmark 4 = .ok (.iload_n 1, 1) := by decide +kernel
theorem dX7_unmark_5 : decode cX7_unmark 5 = .ok (.invokevirtual 56, 3) := by decide +kernel
theorem dX7_unmark_8 : decode cX7_unmark 8 = .ok (.ifCond .ne 6, 3) := by decide +kernel
theorem dX7_unmark_11 : decode cX7_unmark 11 = .ok (.bipush (-101), 2) := by decide +kernel
theorem dX7_unmark_13 : decode cX7_unmark 13 = .ok (.ireturn, 1) := by decide +kernel
theorem dX7_unmark_14 : decode cX7_unmark 14 = .ok (.iload_n 2, 1) := by decide +kernel
theorem dX7_unmark_15 : decode cX7_unmark 15 = .ok (.iconst 0, 1) := by decide +kernel
theorem dX7_unmark_16 : decode cX7_unmark 16 = .ok (.iconst 4, 1) := by decide +kernel
theorem dX7_unmark_17 : decode cX7_unmark 17 = .ok (.invokestatic 44, 3) := by decide +kernel
theorem dX7_unmark_20 : decode cX7_unmark 20 = .ok (.ifCond .ne 6, 3) := by decide +kernel
theorem dX7_unmark_23 : decode cX7_unmark 23 = .ok (.bipush (-102), 2) := by decide +kernel
theorem dX7_unmark_25 : decode cX7_unmark 25 = .ok (.ireturn, 1) := by decide +kernel
theorem dX7_unmark_26 : decode cX7_unmark 26 = .ok (.aload_n 0, 1) := by decide +kernel
theorem dX7_unmark_27 : decode cX7_unmark 27 = .ok (.getfield 10, 3) := by decide +kernel
theorem dX7_unmark_30 : decode cX7_unmark 30 = .ok (.getfield 90, 3) := by decide +kernel
theorem dX7_unmark_33 : decode cX7_unmark 33 = .ok (.iload_n 1, 1) := by decide +kernel
theorem dX7_unmark_34 : decode cX7_unmark 34 = .ok (.iload_n 2, 1) := by decide +kernel
theorem dX7_unmark_35 : decode cX7_unmark 35 = .ok (.bipush (-100), 2) := by decide +kernel
theorem dX7_unmark_37 : decode cX7_unmark 37 = .ok (.invokevirtual 94, 3) := by decide +kernel
theorem dX7_unmark_40 : decode cX7_unmark 40 = .ok (.ireturn, 1) := by decide +kernel
set_option maxRecDepth 20000 in
theorem ggX7_instrument_X5_voiceAt : GoodIn wsX7_instrument wsX5_voiceAt := goodIn_r _ [6, 7, 23, 24, 25, 26, 27] (by decide +kernel) (by decide +kernel)
set_option maxRecDepth 20000 in
theorem gX7_instrument_X5_voiceAt : GoodIn wsX7_instrument (wsV RX7 52 RX5 yX5_voiceAt wsX5_voiceAt) := goodIn_app (goodIn_of _ (by decide +kernel)) ggX7_instrument_X5_voiceAt
set_option maxRecDepth 20000 in
theorem ggX7_instrument_X7_isWithin : GoodIn wsX7_instrument wsX7_isWithin := goodIn_r _ [11] (by decide +kernel) (by decide +kernel)
set_option maxRecDepth 20000 in
theorem gX7_instrument_X7_isWithin : GoodIn wsX7_instrument (va_wsS RX7 44 yX7_isWithin wsX7_isWithin) := goodIn_app (goodIn_of _ (by decide +kernel)) ggX7_instrument_X7_isWithin
theorem dX7_instrument_0 : decode cX7_instrument 0 = .ok (.aload_n 0, 1) := by decide +kernel
theorem dX7_instrument_1 : decode cX7_instrument 1 = .ok (.getfield 10, 3) := by decide +kernel
theorem dX7_instrument_4 : decode cX7_instrument 4 = .ok (.iload_n 1, 1) := by decide +kernel
theorem dX7_instrument_5 : decode cX7_instrument 5 = .ok (.invokevirtual 52, 3) := by decide +kernel
theorem dX7_instrument_8 : decode cX7_instrument 8 = .ok (.astore 4, 2) := by decide +kernel
theorem dX7_instrument_10 : decode cX7_instrument 10 = .ok (.aload 4, 2) := by decide +kernel
theorem dX7_instrument_12 : decode cX7_instrument 12 = .ok (.ifnonnull 6, 3) := by decide +kernel
theorem dX7_instrument_15 : decode cX7_instrument 15 = .ok (.bipush (-101), 2) := by decide +kernel
theorem dX7_instrument_17 : decode cX7_instrument 17 = .ok (.ireturn, 1) := by decide +kernel
theorem dX7_instrument_18 : decode cX7_instrument 18 = .ok (.iload_n 2, 1) := by decide +kernel
theorem dX7_instrument_19 : decode cX7_instrument 19 = .ok (.bipush (-6), 2) := by decide +kernel
theorem dX7_instrument_21 : decode cX7_instrument 21 = .ok (.bipush 6, 2) := by decide +kernel
theorem dX7_instrument_23 : decode cX7_instrument 23 = .ok (.invokestatic 44, 3) := by decide +kernel
theorem dX7_instrument_26 : decode cX7_instrument 26 = .ok (.ifCond .eq 13, 3) := by decide +kernel
theorem dX7_instrument_29 : decode cX7_instrument 29 = .ok (.iload_n 3, 1) := by decide +kernel
theorem dX7_instrument_30 : decode cX7_instrument 30 = .ok (.bipush (-2), 2) := by decide +kernel
theorem dX7_instrument_32 : decode cX7_instrument 32 = .ok (.iconst 2, 1) := by decide +kernel
theorem dX7_instrument_33 : decode cX7_instrument 33 = .ok (.invokestatic 44, 3) := by decide +kernel
theorem dX7_instrument_36 : decode cX7_instrument 36 = .ok (.ifCond .ne 6, 3) := by decide +kernel
theorem dX7_instrument_39 : decode cX7_instrument 39 = .ok (.bipush (-102), 2) := by decide +kernel
theorem dX7_instrument_41 : decode cX7_instrument 41 = .ok (.ireturn, 1) := by decide +kernel
theorem dX7_instrument_42 : decode cX7_instrument 42 = .ok (.aload 4, 2) := by decide +kernel
theorem dX7_instrument_44 : decode cX7_instrument 44 = .ok (.iload_n 2, 1) := by decide +kernel
theorem dX7_instrument_45 : decode cX7_instrument 45 = .ok (.putfield 100, 3) := by decide +kernel
theorem dX7_instrument_48 : decode cX7_instrument 48 = .ok (.aload 4, 2) := by decide +kernel
theorem dX7_instrument_50 : decode cX7_instrument 50 = .ok (.iload_n 3, 1) := by decide +kernel
theorem dX7_instrument_51 : decode cX7_instrument 51 = .ok (.putfield 103, 3) := by decide +kernel
theorem dX7_instrument_54 : decode cX7_instrument 54 = .ok (.iconst 1, 1) := by decide +kernel
theorem dX7_instrument_55 : decode cX7_instrument 55 = .ok (.ireturn, 1) := by decide +kernel
set_option maxRecDepth 20000 in
theorem ggX7_cueing_X7_isWithin : GoodIn wsX7_cueing wsX7_isWithin := goodIn_r _ [5] (by decide +kernel) (by decide +kernel)
set_option maxRecDepth 20000 in
theorem gX7_cueing_X7_isWithin : GoodIn wsX7_cueing (va_wsS RX7 44 yX7_isWithin wsX7_isWithin) := goodIn_app (goodIn_of _ (by decide +kernel)) ggX7_cueing_X7_isWithin
theorem dX7_cueing_0 : decode cX7_cueing 0 = .ok (.iload_n 1, 1) := by decide +kernel
theorem dX7_cueing_1 : decode cX7_cueing 1 = .ok (.iconst 1, 1) := by decide +kernel
theorem dX7_cueing_2 : decode cX7_cueing 2 = .ok (.bipush 40, 2) := by decide +kernel
theorem dX7_cueing_4 : decode cX7_cueing 4 = .ok (.invokestatic 44, 3) := by decide +kernel
theorem dX7_cueing_7 : decode cX7_cueing 7 = .ok (.ifCond .ne 6, 3) := by decide +kernel
theorem dX7_cueing_10 : decode cX7_cueing 10 = .ok (.bipush (-102), 2) := by decide +kernel
theorem dX7_cueing_12 : decode cX7_cueing 12 = .ok (.ireturn, 1) := by decide +kernel
theorem dX7_cueing_13 : decode cX7_cueing 13 = .ok (.aload_n 0, 1) := by decide +kernel
theorem dX7_cueing_14 : decode cX7_cueing 14 = .ok (.getfield 10, 3) := by decide +kernel
theorem dX7_cueing_17 : decode cX7_cueing 17 = .ok (.getfield 106, 3) := by decide +kernel
theorem dX7_cueing_20 : decode cX7_cueing 20 = .ok (.istore_n 2, 1) := by decide +kernel
theorem dX7_cueing_21 : decode cX7_cueing 21 = .ok (.aload_n 0, 1) := by decide +kernel
theorem dX7_cueing_22 : decode cX7_cueing 22 = .ok (.getfield 10, 3) := by decide +kernel
theorem dX7_cueing_25 : decode cX7_cueing 25 = .ok (.iload_n 1, 1) := by decide +kernel
theorem dX7_cueing_26 : decode cX7_cueing 26 = .ok (.putfield 106, 3) := by decide +kernel
theorem dX7_cueing_29 : decode cX7_cueing 29 = .ok (.iload_n 2, 1) := by decide +kernel
theorem dX7_cueing_30 : decode cX7_cueing 30 = .ok (.ireturn, 1) := by decide +kernel
set_option maxRecDepth 20000 in
theorem ggX7_extract_X5_voiceAt : GoodIn wsX7_extract wsX5_voiceAt := goodIn_r _ [9, 10, 173, 174, 175, 176, 177] (by decide +kernel) (by decide +kernel)
set_option maxRecDepth 20000 in
theorem gX7_extract_X5_voiceAt : GoodIn wsX7_extract (wsV RX7 52 RX5 yX5_voiceAt wsX5_voiceAt) := goodIn_app (goodIn_of _ (by decide +kernel)) ggX7_extract_X5_voiceAt
set_option maxRecDepth 20000 in
theorem ggX7_extract_X4_init : GoodIn wsX7_extract wsX4_init := goodIn_r _ [12, 13, 14, 15, 16, 17, 18, 19, 20, 21, 22, 23, 24, 25, 26, 170, 171, 172, 178, 179] (by decide +kernel) (by decide +kernel)
set_option maxRecDepth 20000 in
theorem gX7_extract_X4_init_n28 : GoodIn wsX7_extract (wsX4_init) := ggX7_extract_X4_init
set_option maxRecDepth 20000 in
theorem ggX7_extract_X0_make : GoodIn wsX7_extract wsX0_make := goodIn_r _ [30, 31, 32, 33, 4, 34, 35, 21, 36, 37, 38, 20, 39, 40, 41, 42, 43, 25, 44, 45, 46, 47, 48, 49, 50, 51, 52, 53, 54, 55, 17, 56, 57, 58, 59, 60, 61, 29, 62, 63, 64, 65, 66, 67, 68, 69, 70, 71, 72, 73, 74, 75, 76, 77, 78, 79, 80, 81, 82, 83, 84, 85, 86, 87, 88, 89, 90, 91, 92, 93, 94, 26, 95, 96, 97, 98, 99, 100, 101, 102, 103, 104, 105, 106, 107, 108, 109, 110, 111, 112, 113, 114, 115, 116, 8, 117, 118, 119, 120, 121, 122, 123, 6, 7, 9, 10, 124, 125, 126, 127, 128, 129, 130, 131, 132, 133, 134, 135, 136, 137, 138, 139, 140, 141, 142, 143, 144, 145, 146, 147, 148, 149, 150, 151, 152, 153, 154, 155, 156, 157, 158, 165, 166, 167, 168, 169, 173, 174, 175, 176, 177, 170, 171, 172, 178, 179, 180] (by decide +kernel) (by decide +kernel)
set_option maxRecDepth 20000 in
theorem gX7_extract_X0_make : GoodIn wsX7_extract (va_wsS RX7 112 yX0_make wsX0_make) := goodIn_app (goodIn_of _ (by decide +kernel)) ggX7_extract_X0_make
theorem dX7_extract_0 : decode cX7_extract 0 = .ok (.aload_n 0, 1) := by decide +kernel
theorem dX7_extract_1 : decode cX7_extract 1 = .ok (.getfield 10, 3) := by decide +kernel
theorem dX7_extract_4 : decode cX7_extract 4 = .ok (.iload_n 1, 1) := by decide +kernel
theorem dX7_extract_5 : decode cX7_extract 5 = .ok (.invokevirtual 52, 3) := by decide +kernel
theorem dX7_extract_8 : decode cX7_extract 8 = .ok (.astore_n 2, 1) := by decide +kernel
theorem dX7_extract_9 : decode cX7_extract 9 = .ok (.aload_n 2, 1) := by decide +kernel
theorem dX7_extract_10 : decode cX7_extract 10 = .ok (.ifnonnull 6, 3) := by decide +kernel
theorem dX7_extract_13 : decode cX7_extract 13 = .ok (.bipush (-101), 2) := by decide +kernel
theorem dX7_extract_15 : decode cX7_extract 15 = .ok (.ireturn, 1) := by decide +kernel
theorem dX7_extract_16 : decode cX7_extract 16 = .ok (.aload_n 2, 1) := by decide +kernel
theorem dX7_extract_17 : decode cX7_extract 17 = .ok (.getfield 109, 3) := by decide +kernel
theorem dX7_extract_20 : decode cX7_extract 20 = .ok (.ifnonnull 14, 3) := by decide +kernel
theorem dX7_extract_23 : decode cX7_extract 23 = .ok (.aload_n 2, 1) := by decide +kernel
theorem dX7_extract_24 : decode cX7_extract 24 = .ok (.new 26, 3) := by decide +kernel
theorem dX7_extract_27 : decode cX7_extract 27 = .ok (.dup, 1) := by decide +kernel
theorem dX7_extract_28 : decode cX7_extract 28 = .ok (.invokespecial 28, 3) := by decide +kernel
theorem dX7_extract_31 : decode cX7_extract 31 = .ok (.putfield 109, 3) := by decide +kernel
theorem dX7_extract_34 : decode cX7_extract 34 = .ok (.aload_n 0, 1) := by decide +kernel
theorem dX7_extract_35 : decode cX7_extract 35 = .ok (.getfield 10, 3) := by decide +kernel
theorem dX7_extract_38 : decode cX7_extract 38 = .ok (.aload_n 2, 1) := by decide +kernel
theorem dX7_extract_39 : decode cX7_extract 39 = .ok (.aload_n 2, 1) := by decide +kernel
theorem dX7_extract_40 : decode cX7_extract 40 = .ok (.getfield 109, 3) := by decide +kernel
theorem dX7_extract_43 : decode cX7_extract 43 = .ok (.invokestatic 112, 3) := by decide +kernel
theorem dX7_extract_46 : decode cX7_extract 46 = .ok (.aload_n 2, 1) := by decide +kernel
theorem dX7_extract_47 : decode cX7_extract 47 = .ok (.getfield 109, 3) := by decide +kernel
theorem dX7_extract_50 : decode cX7_extract 50 = .ok (.getfield 118, 3) := by decide +kernel
theorem dX7_extract_53 : decode cX7_extract 53 = .ok (.ireturn, 1) := by decide +kernel
set_option maxRecDepth 20000 in
theorem ggX7_row_X5_partOf : GoodIn wsX7_row wsX5_partOf := goodIn_r _ [6, 7, 8, 9, 5, 10, 11, 34, 35, 36, 37, 38, 39, 40, 41, 42, 43] (by decide +kernel) (by decide +kernel)
set_option maxRecDepth 20000 in
theorem gX7_row_X5_partOf : GoodIn wsX7_row (wsV RX7 121 RX5 yX5_partOf wsX5_partOf) := goodIn_app (goodIn_of _ (by decide +kernel)) ggX7_row_X5_partOf
set_option maxRecDepth 20000 in
theorem ggX7_row_X4_hasRow : GoodIn wsX7_row wsX4_hasRow := goodIn_r _ [16, 17, 44, 45, 46] (by decide +kernel) (by decide +kernel)
set_option maxRecDepth 20000 in
theorem gX7_row_X4_hasRow : GoodIn wsX7_row (wsV RX7 125 RX4 yX4_hasRow wsX4_hasRow) := goodIn_app (goodIn_of _ (by decide +kernel)) ggX7_row_X4_hasRow
set_option maxRecDepth 20000 in
theorem ggX7_row_X7_isWithin : GoodIn wsX7_row wsX7_isWithin := goodIn_r _ [21] (by decide +kernel) (by decide +kernel)
set_option maxRecDepth 20000 in
theorem gX7_row_X7_isWithin : GoodIn wsX7_row (va_wsS RX7 44 yX7_isWithin wsX7_isWithin) := goodIn_app (goodIn_of _ (by decide +kernel)) ggX7_row_X7_isWithin
set_option maxRecDepth 20000 in
theorem ggX7_row_X4_figure : GoodIn wsX7_row wsX4_figure := goodIn_r _ [25, 26, 27, 13, 14, 15, 16, 17, 44, 45, 46] (by decide +kernel) (by decide +kernel)
set_option maxRecDepth 20000 in
theorem gX7_row_X4_figure : GoodIn wsX7_row (wsV RX7 128 RX4 yX4_figure wsX4_figure) := goodIn_app (goodIn_of _ (by decide +kernel)) ggX7_row_X4_figure
theorem dX7_row_0 : decode cX7_row 0 = .ok (.aload_n 0, 1) := by decide +kernel
theorem dX7_row_1 : decode cX7_row 1 = .ok (.getfield 10, 3) := by decide +kernel
theorem dX7_row_4 : decode cX7_row 4 = .ok (.iload_n 1, 1) := by decide +kernel
theorem dX7_row_5 : decode cX7_row 5 = .ok (.invokevirtual 121, 3) := by decide +kernel
theorem dX7_row_8 : decode cX7_row 8 = .ok (.astore 4, 2) := by decide +kernel
theorem dX7_row_10 : decode cX7_row 10 = .ok (.aload 4, 2) := by decide +kernel
theorem dX7_row_12 : decode cX7_row 12 = .ok (.ifnull 12, 3) := by decide +kernel
theorem dX7_row_15 : decode cX7_row 15 = .ok (.aload 4, 2) := by decide +kernel
theorem dX7_row_17 : decode cX7_row 17 = .ok (.iload_n 2, 1) := by decide +kernel
theorem dX7_row_18 : decode cX7_row 18 = .ok (.invokevirtual 125, 3) := by decide +kernel
theorem dX7_row_21 : decode cX7_row 21 = .ok (.ifCond .ne 6, 3) := by decide +kernel
theorem dX7_row_24 : decode cX7_row 24 = .ok (.bipush (-101), 2) := by decide +kernel
theorem dX7_row_26 : decode cX7_row 26 = .ok (.ireturn, 1) := by decide +kernel
theorem dX7_row_27 : decode cX7_row 27 = .ok (.iload_n 3, 1) := by decide +kernel
theorem dX7_row_28 : decode cX7_row 28 = .ok (.iconst 0, 1) := by decide +kernel
theorem dX7_row_29 : decode cX7_row 29 = .ok (.bipush 6, 2) := by decide +kernel
theorem dX7_row_31 : decode cX7_row 31 = .ok (.invokestatic 44, 3) := by decide +kernel
theorem dX7_row_34 : decode cX7_row 34 = .ok (.ifCond .ne 6, 3) := by decide +kernel
theorem dX7_row_37 : decode cX7_row 37 = .ok (.bipush (-102), 2) := by decide +kernel
theorem dX7_row_39 : decode cX7_row 39 = .ok (.ireturn, 1) := by decide +kernel
theorem dX7_row_40 : decode cX7_row 40 = .ok (.aload 4, 2) := by decide +kernel
theorem dX7_row_42 : decode cX7_row 42 = .ok (.iload_n 2, 1) := by decide +kernel
theorem dX7_row_43 : decode cX7_row 43 = .ok (.iload_n 3, 1) := by decide +kernel
theorem dX7_row_44 : decode cX7_row 44 = .ok (.invokevirtual 128, 3) := by decide +kernel
theorem dX7_row_47 : decode cX7_row 47 = .ok (.ireturn, 1) := by decide +kernel
set_option maxRecDepth 20000 in
theorem ggX7_written_X5_partOf : GoodIn wsX7_written wsX5_partOf := goodIn_r _ [6, 7, 8, 9, 5, 10, 11, 42, 43, 44, 45, 46, 47, 48, 49, 50, 51] (by decide +kernel) (by decide +kernel)
set_option maxRecDepth 20000 in
theorem gX7_written_X5_partOf : GoodIn wsX7_written (wsV RX7 121 RX5 yX5_partOf wsX5_partOf) := goodIn_app (goodIn_of _ (by decide +kernel)) ggX7_written_X5_partOf
set_option maxRecDepth 20000 in
theorem ggX7_written_X4_hasRow : GoodIn wsX7_written wsX4_hasRow := goodIn_r _ [16, 17, 39, 40, 41] (by decide +kernel) (by decide +kernel)
set_option maxRecDepth 20000 in
theorem gX7_written_X4_hasRow : GoodIn wsX7_written (wsV RX7 125 RX4 yX4_hasRow wsX4_hasRow) := goodIn_app (goodIn_of _ (by decide +kernel)) ggX7_written_X4_hasRow
set_option maxRecDepth 20000 in
theorem ggX7_written_X3_size : GoodIn wsX7_written wsX3_size := goodIn_r _ [22, 23, 52, 53] (by decide +kernel) (by decide +kernel)
set_option maxRecDepth 20000 in
theorem gX7_written_X3_size : GoodIn wsX7_written (wsV RX7 75 RX3 yX3_size wsX3_size) := goodIn_app (goodIn_of _ (by decide +kernel)) ggX7_written_X3_size
set_option maxRecDepth 20000 in
theorem ggX7_written_X7_isWithin : GoodIn wsX7_written wsX7_isWithin := goodIn_r _ [27] (by decide +kernel) (by decide +kernel)
set_option maxRecDepth 20000 in
theorem gX7_written_X7_isWithin : GoodIn wsX7_written (va_wsS RX7 44 yX7_isWithin wsX7_isWithin) := goodIn_app (goodIn_of _ (by decide +kernel)) ggX7_written_X7_isWithin
set_option maxRecDepth 20000 in
theorem ggX7_written_X3_figure : GoodIn wsX7_written wsX3_figure := goodIn_r _ [31, 23, 32, 52, 53] (by decide +kernel) (by decide +kernel)
set_option maxRecDepth 20000 in
theorem gX7_written_X3_figure : GoodIn wsX7_written (wsV RX7 133 RX3 yX3_figure wsX3_figure) := goodIn_app (goodIn_of _ (by decide +kernel)) ggX7_written_X3_figure
theorem dX7_written_0 : decode cX7_written 0 = .ok (.aload_n 0, 1) := by decide +kernel
theorem dX7_written_1 : decode cX7_written 1 = .ok (.getfield 10, 3) := by decide +kernel
theorem dX7_written_4 : decode cX7_written 4 = .ok (.iload_n 1, 1) := by decide +kernel
theorem dX7_written_5 : decode cX7_written 5 = .ok (.invokevirtual 121, 3) := by decide +kernel
theorem dX7_written_8 : decode cX7_written 8 = .ok (.astore 5, 2) := by decide +kernel
theorem dX7_written_10 : decode cX7_written 10 = .ok (.aload 5, 2) := by decide +kernel
theorem dX7_written_12 : decode cX7_written 12 = .ok (.ifnull 31, 3) := by decide +kernel
theorem dX7_written_15 : decode cX7_written 15 = .ok (.aload 5, 2) := by decide +kernel
theorem dX7_written_17 : decode cX7_written 17 = .ok (.iload_n 2, 1) := by decide +kernel
theorem dX7_written_18 : decode cX7_written 18 = .ok (.invokevirtual 125, 3) := by decide +kernel
theorem dX7_written_21 : decode cX7_written 21 = .ok (.ifCond .eq 22, 3) := by decide +kernel
theorem dX7_written_24 : decode cX7_written 24 = .ok (.iload_n 3, 1) := by decide +kernel
theorem dX7_written_25 : decode cX7_written 25 = .ok (.iconst 0, 1) := by decide +kernel
theorem dX7_written_26 : decode cX7_written 26 = .ok (.aload 5, 2) := by decide +kernel
theorem dX7_written_28 : decode cX7_written 28 = .ok (.getfield 132, 3) := by decide +kernel
theorem dX7_written_31 : decode cX7_written 31 = .ok (.iload_n 2, 1) := by decide +kernel
theorem dX7_written_32 : decode cX7_written 32 = .ok (.invokevirtual 75, 3) := by decide +kernel
theorem dX7_written_35 : decode cX7_written 35 = .ok (.iconst 1, 1) := by decide +kernel
theorem dX7_written_36 : decode cX7_written 36 = .ok (.isub, 1) := by decide +kernel
theorem dX7_written_37 : decode cX7_written 37 = .ok (.invokestatic 44, 3) := by decide +kernel
theorem dX7_written_40 : decode cX7_written 40 = .ok (.ifCond .ne 6, 3) := by decide +kernel
theorem dX7_written_43 : decode cX7_written 43 = .ok (.bipush (-101), 2) := by decide +kernel
theorem dX7_written_45 : decode cX7_written 45 = .ok (.ireturn, 1) := by decide +kernel
theorem dX7_written_46 : decode cX7_written 46 = .ok (.iload 4, 2) := by decide +kernel
theorem dX7_written_48 : decode cX7_written 48 = .ok (.iconst 0, 1) := by decide +kernel
theorem dX7_written_49 : decode cX7_written 49 = .ok (.iconst 3, 1) := by decide +kernel
theorem dX7_written_50 : decode cX7_written 50 = .ok (.invokestatic 44, 3) := by decide +kernel
theorem dX7_written_53 : decode cX7_written 53 = .ok (.ifCond .ne 6, 3) := by decide +kernel
theorem dX7_written_56 : decode cX7_written 56 = .ok (.bipush (-102), 2) := by decide +kernel
theorem dX7_written_58 : decode cX7_written 58 = .ok (.ireturn, 1) := by decide +kernel
theorem dX7_written_59 : decode cX7_written 59 = .ok (.aload 5, 2) := by decide +kernel
theorem dX7_written_61 : decode cX7_written 61 = .ok (.getfield 132, 3) := by decide +kernel
theorem dX7_written_64 : decode cX7_written 64 = .ok (.iload_n 2, 1) := by decide +kernel
theorem dX7_written_65 : decode cX7_written 65 = .ok (.iload_n 3, 1) := by decide +kernel
theorem dX7_written_66 : decode cX7_written 66 = .ok (.iload 4, 2) := by decide +kernel
theorem dX7_written_68 : decode cX7_written 68 = .ok (.invokevirtual 133, 3) := by decide +kernel
theorem dX7_written_71 : decode cX7_written 71 = .ok (.ireturn, 1) := by decide +kernel
set_option maxRecDepth 20000 in
theorem ggX7_unlike_X5_voiceAt : GoodIn wsX7_unlike wsX5_voiceAt := goodIn_r _ [7, 8, 171, 172, 173, 174, 175] (by decide +kernel) (by decide +kernel)
set_option maxRecDepth 20000 in
theorem gX7_unlike_X5_voiceAt : GoodIn wsX7_unlike (wsV RX7 52 RX5 yX5_voiceAt wsX5_voiceAt) := goodIn_app (goodIn_of _ (by decide +kernel)) ggX7_unlike_X5_voiceAt
set_option maxRecDepth 20000 in
theorem ggX7_unlike_X5_partOf : GoodIn wsX7_unlike wsX5_partOf := goodIn_r _ [12, 13, 4, 5, 6, 7, 8, 176, 177, 178, 179, 180, 171, 172, 173, 174, 175] (by decide +kernel) (by decide +kernel)
set_option maxRecDepth 20000 in
theorem gX7_unlike_X5_partOf : GoodIn wsX7_unlike (wsV RX7 121 RX5 yX5_partOf wsX5_partOf) := goodIn_app (goodIn_of _ (by decide +kernel)) ggX7_unlike_X5_partOf
set_option maxRecDepth 20000 in
theorem ggX7_unlike_X0_make : GoodIn wsX7_unlike wsX0_make := goodIn_r _ [17, 18, 19, 20, 21, 22, 23, 24, 25, 26, 27, 28, 29, 30, 31, 32, 33, 34, 35, 36, 37, 38, 39, 40, 41, 42, 43, 44, 45, 46, 47, 48, 49, 50, 51, 52, 53, 16, 54, 55, 56, 57, 58, 59, 60, 61, 62, 63, 64, 65, 66, 67, 68, 69, 70, 71, 72, 73, 74, 75, 76, 77, 78, 79, 80, 81, 82, 83, 84, 85, 86, 87, 88, 89, 90, 91, 92, 93, 94, 95, 96, 97, 98, 99, 100, 101, 102, 103, 104, 105, 106, 107, 108, 109, 6, 110, 111, 112, 113, 114, 115, 13, 4, 5, 7, 8, 116, 117, 118, 119, 120, 121, 122, 123, 124, 125, 126, 127, 128, 129, 130, 131, 132, 133, 134, 135, 136, 137, 138, 139, 140, 141, 142, 143, 144, 145, 146, 147, 148, 149, 150, 176, 177, 178, 179, 180, 171, 172, 173, 174, 175, 181, 182, 183, 184, 185, 186] (by decide +kernel) (by decide +kernel)
set_option maxRecDepth 20000 in
theorem gX7_unlike_X0_make : GoodIn wsX7_unlike (va_wsS RX7 112 yX0_make wsX0_make) := goodIn_app (goodIn_of _ (by decide +kernel)) ggX7_unlike_X0_make
set_option maxRecDepth 20000 in
theorem ggX7_unlike_X4_firstUnlike : GoodIn wsX7_unlike wsX4_firstUnlike := goodIn_r _ [154, 23, 155, 31, 32, 33, 48, 49, 50, 21, 51, 156, 157, 158, 159, 24, 160, 56, 57, 58, 47, 161, 162, 163, 28, 164, 79, 80, 81, 82, 34, 83, 84, 85, 86, 87, 181, 182, 183, 184, 185] (by decide +kernel) (by decide +kernel)
set_option maxRecDepth 20000 in
theorem gX7_unlike_X4_firstUnlike : GoodIn wsX7_unlike (wsV RX7 135 RX4 yX4_firstUnlike wsX4_firstUnlike) := goodIn_app (goodIn_of _ (by decide +kernel)) ggX7_unlike_X4_firstUnlike
theorem dX7_unlike_0 : decode cX7_unlike 0 = .ok (.aload_n 0, 1) := by decide +kernel
theorem dX7_unlike_1 : decode cX7_unlike 1 = .ok (.getfield 10, 3) := by decide +kernel
theorem dX7_unlike_4 : decode cX7_unlike 4 = .ok (.iload_n 1, 1) := by decide +kernel
theorem dX7_unlike_5 : decode cX7_unlike 5 = .ok (.invokevirtual 52, 3) := by decide +kernel
theorem dX7_unlike_8 : decode cX7_unlike 8 = .ok (.astore_n 2, 1) := by decide +kernel
theorem dX7_unlike_9 : decode cX7_unlike 9 = .ok (.aload_n 0, 1) := by decide +kernel
theorem dX7_unlike_10 : decode cX7_unlike 10 = .ok (.getfield 10, 3) := by decide +kernel
theorem dX7_unlike_13 : decode cX7_unlike 13 = .ok (.iload_n 1, 1) := by decide +kernel
theorem dX7_unlike_14 : decode cX7_unlike 14 = .ok (.invokevirtual 121, 3) := by decide +kernel
theorem dX7_unlike_17 : decode cX7_unlike 17 = .ok (.astore_n 3, 1) := by decide +kernel
theorem dX7_unlike_18 : decode cX7_unlike 18 = .ok (.aload_n 2, 1) := by decide +kernel
theorem dX7_unlike_19 : decode cX7_unlike 19 = .ok (.ifnull 7, 3) := by decide +kernel
theorem dX7_unlike_22 : decode cX7_unlike 22 = .ok (.aload_n 3, 1) := by decide +kernel
theorem dX7_unlike_23 : decode cX7_unlike 23 = .ok (.ifnonnull 6, 3) := by decide +kernel
theorem dX7_unlike_26 : decode cX7_unlike 26 = .ok (.bipush (-101), 2) := by decide +kernel
theorem dX7_unlike_28 : decode cX7_unlike 28 = .ok (.ireturn, 1) := by decide +kernel
theorem dX7_unlike_29 : decode cX7_unlike 29 = .ok (.aload_n 0, 1) := by decide +kernel
theorem dX7_unlike_30 : decode cX7_unlike 30 = .ok (.getfield 10, 3) := by decide +kernel
theorem dX7_unlike_33 : decode cX7_unlike 33 = .ok (.aload_n 2, 1) := by decide +kernel
theorem dX7_unlike_34 : decode cX7_unlike 34 = .ok (.aload_n 0, 1) := by decide +kernel
theorem dX7_unlike_35 : decode cX7_unlike 35 = .ok (.getfield 29, 3) := by decide +kernel
theorem dX7_unlike_38 : decode cX7_unlike 38 = .ok (.invokestatic 112, 3) := by decide +kernel
theorem dX7_unlike_41 : decode cX7_unlike 41 = .ok (.aload_n 3, 1) := by decide +kernel
theorem dX7_unlike_42 : decode cX7_unlike 42 = .ok (.aload_n 0, 1) := by decide +kernel
theorem dX7_unlike_43 : decode cX7_unlike 43 = .ok (.getfield 29, 3) := by decide +kernel
theorem dX7_unlike_46 : decode cX7_unlike 46 = .ok (.invokevirtual 135, 3) := by decide +kernel
theorem dX7_unlike_49 : decode cX7_unlike 49 = .ok (.ireturn, 1) := by decide +kernel
set_option maxRecDepth 20000 in
theorem ggX7_renew_X5_voiceAt : GoodIn wsX7_renew wsX5_voiceAt := goodIn_r _ [7, 8, 230, 231, 232, 233, 234] (by decide +kernel) (by decide +kernel)
set_option maxRecDepth 20000 in
theorem gX7_renew_X5_voiceAt : GoodIn wsX7_renew (wsV RX7 52 RX5 yX5_voiceAt wsX5_voiceAt) := goodIn_app (goodIn_of _ (by decide +kernel)) ggX7_renew_X5_voiceAt
set_option maxRecDepth 20000 in
theorem ggX7_renew_X5_partOf : GoodIn wsX7_renew wsX5_partOf := goodIn_r _ [12, 13, 4, 5, 6, 7, 8, 225, 226, 227, 228, 229, 230, 231, 232, 233, 234] (by decide +kernel) (by decide +kernel)
set_option maxRecDepth 20000 in
theorem gX7_renew_X5_partOf : GoodIn wsX7_renew (wsV RX7 121 RX5 yX5_partOf wsX5_partOf) := goodIn_app (goodIn_of _ (by decide +kernel)) ggX7_renew_X5_partOf
set_option maxRecDepth 20000 in
theorem ggX7_renew_X0_make : GoodIn wsX7_renew wsX0_make := goodIn_r _ [17, 18, 19, 20, 21, 22, 23, 24, 25, 26, 27, 28, 29, 30, 31, 32, 33, 34, 35, 36, 37, 38, 39, 40, 41, 42, 43, 44, 45, 46, 47, 48, 49, 50, 51, 52, 53, 16, 54, 55, 56, 57, 58, 59, 60, 61, 62, 63, 64, 65, 66, 67, 68, 69, 70, 71, 72, 73, 74, 75, 76, 77, 78, 79, 80, 81, 82, 83, 84, 85, 86, 87, 88, 89, 90, 91, 92, 93, 94, 95, 96, 97, 98, 99, 100, 101, 102, 103, 104, 105, 106, 107, 108, 109, 6, 110, 111, 112, 113, 114, 115, 13, 4, 5, 7, 8, 116, 117, 118, 119, 120, 121, 122, 123, 124, 125, 126, 127, 128, 129, 130, 131, 132, 133, 134, 135, 136, 137, 138, 139, 140, 141, 142, 143, 144, 145, 146, 147, 148, 149, 150, 225, 226, 227, 228, 229, 230, 231, 232, 233, 234, 235, 236, 237, 238, 239, 240] (by decide +kernel) (by decide +kernel)
set_option maxRecDepth 20000 in
theorem gX7_renew_X0_make : GoodIn wsX7_renew (va_wsS RX7 112 yX0_make wsX0_make) := goodIn_app (goodIn_of _ (by decide +kernel)) ggX7_renew_X0_make
set_option maxRecDepth 20000 in
theorem ggX7_renew_X7_pagesAlike : GoodIn wsX7_renew wsX7_pagesAlike := goodIn_r _ [155, 156, 157, 158, 159, 160, 161, 32, 162, 163, 164, 165, 166, 167, 168, 169, 170, 171, 172, 173, 174, 175, 176, 56, 57, 21, 58, 47, 48, 49, 50, 51, 23, 177, 178, 179, 180, 181, 182, 183, 184, 185, 186, 187, 188, 189, 190, 191, 192, 193, 194, 195, 196, 197, 198, 199, 200, 201, 202, 203, 204, 154, 205, 206, 207, 208, 209, 210, 211, 212, 213, 24, 214, 215, 216, 217, 28, 218, 79, 80, 81, 82, 34, 83, 84, 85, 86, 87, 219, 220, 221, 222, 223, 224, 241, 242, 243, 244, 235, 236, 237, 238, 239] (by decide +kernel) (by decide +kernel)
set_option maxRecDepth 20000 in
theorem gX7_renew_X7_pagesAlike : GoodIn wsX7_renew (wsV RX7 139 RX7 yX7_pagesAlike wsX7_pagesAlike) := goodIn_app (goodIn_of _ (by decide +kernel)) ggX7_renew_X7_pagesAlike
theorem dX7_renew_0 : decode cX7_renew 0 = .ok (.aload_n 0, 1) := by decide +kernel
theorem dX7_renew_1 : decode cX7_renew 1 = .ok (.getfield 10, 3) := by decide +kernel
theorem dX7_renew_4 : decode cX7_renew 4 = .ok (.iload_n 1, 1) := by decide +kernel
theorem dX7_renew_5 : decode cX7_renew 5 = .ok (.invokevirtual 52, 3) := by decide +kernel
theorem dX7_renew_8 : decode cX7_renew 8 = .ok (.astore_n 2, 1) := by decide +kernel
theorem dX7_renew_9 : decode cX7_renew 9 = .ok (.aload_n 0, 1) := by decide +kernel
theorem dX7_renew_10 : decode cX7_renew 10 = .ok (.getfield 10, 3) := by decide +kernel
theorem dX7_renew_13 : decode cX7_renew 13 = .ok (.iload_n 1, 1) := by decide +kernel
theorem dX7_renew_14 : decode cX7_renew 14 = .ok (.invokevirtual 121, 3) := by decide +kernel
theorem dX7_renew_17 : decode cX7_renew 17 = .ok (.astore_n 3, 1) := by decide +kernel
theorem dX7_renew_18 : decode cX7_renew 18 = .ok (.aload_n 2, 1) := by decide +kernel
theorem dX7_renew_19 : decode cX7_renew 19 = .ok (.ifnull 7, 3) := by decide +kernel
theorem dX7_renew_22 : decode cX7_renew 22 = .ok (.aload_n 3, 1) := by decide +kernel
theorem dX7_renew_23 : decode cX7_renew 23 = .ok (.ifnonnull 6, 3) := by decide +kernel
theorem dX7_renew_26 : decode cX7_renew 26 = .ok (.bipush (-101), 2) := by decide +kernel
theorem dX7_renew_28 : decode cX7_renew 28 = .ok (.ireturn, 1) := by decide +kernel
theorem dX7_renew_29 : decode cX7_renew 29 = .ok (.aload_n 0, 1) := by decide +kernel
theorem dX7_renew_30 : decode cX7_renew 30 = .ok (.getfield 10, 3) := by decide +kernel
theorem dX7_renew_33 : decode cX7_renew 33 = .ok (.aload_n 2, 1) := by decide +kernel
theorem dX7_renew_34 : decode cX7_renew 34 = .ok (.aload_n 0, 1) := by decide +kernel
theorem dX7_renew_35 : decode cX7_renew 35 = .ok (.getfield 29, 3) := by decide +kernel
theorem dX7_renew_38 : decode cX7_renew 38 = .ok (.invokestatic 112, 3) := by decide +kernel
theorem dX7_renew_41 : decode cX7_renew 41 = .ok (.aload_n 0, 1) := by decide +kernel
theorem dX7_renew_42 : decode cX7_renew 42 = .ok (.aload_n 3, 1) := by decide +kernel
theorem dX7_renew_43 : decode cX7_renew 43 = .ok (.aload_n 0, 1) := by decide +kernel
theorem dX7_renew_44 : decode cX7_renew 44 = .ok (.getfield 29, 3) := by decide +kernel
theorem dX7_renew_47 : decode cX7_renew 47 = .ok (.invokevirtual 139, 3) := by decide +kernel
theorem dX7_renew_50 : decode cX7_renew 50 = .ok (.istore 4, 2) := by decide +kernel
theorem dX7_renew_52 : decode cX7_renew 52 = .ok (.aload_n 2, 1) := by decide +kernel
theorem dX7_renew_53 : decode cX7_renew 53 = .ok (.aload_n 0, 1) := by decide +kernel
theorem dX7_renew_54 : decode cX7_renew 54 = .ok (.getfield 29, 3) := by decide +kernel
theorem dX7_renew_57 : decode cX7_renew 57 = .ok (.putfield 109, 3) := by decide +kernel
theorem dX7_renew_60 : decode cX7_renew 60 = .ok (.aload_n 0, 1) := by decide +kernel
theorem dX7_renew_61 : decode cX7_renew 61 = .ok (.aload_n 3, 1) := by decide +kernel
theorem dX7_renew_62 : decode cX7_renew 62 = .ok (.putfield 29, 3) := by decide +kernel
theorem dX7_renew_65 : decode cX7_renew 65 = .ok (.iload 4, 2) := by decide +kernel
theorem dX7_renew_67 : decode cX7_renew 67 = .ok (.ireturn, 1) := by decide +kernel
set_option maxRecDepth 20000 in
theorem ggX7_tacet_X5_voiceAt : GoodIn wsX7_tacet wsX5_voiceAt := goodIn_r _ [6, 7, 25, 26, 27, 28, 29] (by decide +kernel) (by decide +kernel)
set_option maxRecDepth 20000 in
theorem gX7_tacet_X5_voiceAt : GoodIn wsX7_tacet (wsV RX7 52 RX5 yX5_voiceAt wsX5_voiceAt) := goodIn_app (goodIn_of _ (by decide +kernel)) ggX7_tacet_X5_voiceAt
set_option maxRecDepth 20000 in
theorem ggX7_tacet_X3_total : GoodIn wsX7_tacet wsX3_total := goodIn_r _ [12, 13, 30, 31] (by decide +kernel) (by decide +kernel)
set_option maxRecDepth 20000 in
theorem gX7_tacet_X3_total : GoodIn wsX7_tacet (wsV RX7 143 RX3 yX3_total wsX3_total) := goodIn_app (goodIn_of _ (by decide +kernel)) ggX7_tacet_X3_total
theorem dX7_tacet_0 : decode cX7_tacet 0 = .ok (.aload_n 0, 1) := by decide +kernel
theorem dX7_tacet_1 : decode cX7_tacet 1 = .ok (.getfield 10, 3) := by decide +kernel
theorem dX7_tacet_4 : decode cX7_tacet 4 = .ok (.iload_n 1, 1) := by decide +kernel
theorem dX7_tacet_5 : decode cX7_tacet 5 = .ok (.invokevirtual 52, 3) := by decide +kernel
theorem dX7_tacet_8 : decode cX7_tacet 8 = .ok (.astore_n 2, 1) := by decide +kernel
theorem dX7_tacet_9 : decode cX7_tacet 9 = .ok (.aload_n 2, 1) := by decide +kernel
theorem dX7_tacet_10 : decode cX7_tacet 10 = .ok (.ifnonnull 6, 3) := by decide +kernel
theorem dX7_tacet_13 : decode cX7_tacet 13 = .ok (.bipush (-101), 2) := by decide +kernel
theorem dX7_tacet_15 : decode cX7_tacet 15 = .ok (.ireturn, 1) := by decide +kernel
theorem dX7_tacet_16 : decode cX7_tacet 16 = .ok (.aload_n 2, 1) := by decide +kernel
theorem dX7_tacet_17 : decode cX7_tacet 17 = .ok (.getfield 64, 3) := by decide +kernel
theorem dX7_tacet_20 : decode cX7_tacet 20 = .ok (.invokevirtual 143, 3) := by decide +kernel
theorem dX7_tacet_23 : decode cX7_tacet 23 = .ok (.ifCond .ne 7, 3) := by decide +kernel
theorem dX7_tacet_26 : decode cX7_tacet 26 = .ok (.iconst 1, 1) := by decide +kernel
theorem dX7_tacet_27 : decode cX7_tacet 27 = .ok (.goto 4, 3) := by decide +kernel
theorem dX7_tacet_30 : decode cX7_tacet 30 = .ok (.iconst 0, 1) := by decide +kernel
theorem dX7_tacet_31 : decode cX7_tacet 31 = .ok (.ireturn, 1) := by decide +kernel
set_option maxRecDepth 20000 in
theorem ggX7_lay_X7_isWithin : GoodIn wsX7_lay wsX7_isWithin := goodIn_r _ [6] (by decide +kernel) (by decide +kernel)
set_option maxRecDepth 20000 in
theorem gX7_lay_X7_isWithin : GoodIn wsX7_lay (va_wsS RX7 44 yX7_isWithin wsX7_isWithin) := goodIn_app (goodIn_of _ (by decide +kernel)) ggX7_lay_X7_isWithin
set_option maxRecDepth 20000 in
theorem ggX7_lay_X7_pageCountOf : GoodIn wsX7_lay wsX7_pageCountOf := goodIn_r _ [10, 11, 12, 1, 2, 13, 14, 15, 16, 17, 18, 19, 20, 21, 22, 23, 24, 25, 26, 27, 28, 29, 30, 31, 32, 33, 34, 35, 36, 37, 38, 39, 40, 41, 42, 43, 44, 45, 46, 47, 48, 49, 50, 51, 52, 53, 54, 55, 56, 57, 58, 59, 60, 61, 62, 63, 64, 65, 66, 67, 68, 69, 70, 71, 72, 73, 74, 75, 76, 77, 78, 79, 80, 81, 82, 83, 84, 85, 86, 87, 88, 89, 90, 91, 92, 93, 94, 95, 96, 97] (by decide +kernel) (by decide +kernel)
set_option maxRecDepth 20000 in
theorem gX7_lay_X7_pageCountOf : GoodIn wsX7_lay (wsV RX7 146 RX7 yX7_pageCountOf wsX7_pageCountOf) := goodIn_app (goodIn_of _ (by decide +kernel)) ggX7_lay_X7_pageCountOf
theorem dX7_lay_0 : decode cX7_lay 0 = .ok (.iload_n 1, 1) := by decide +kernel
theorem dX7_lay_1 : decode cX7_lay 1 = .ok (.bipush 8, 2) := by decide +kernel
theorem dX7_lay_3 : decode cX7_lay 3 = .ok (.bipush 60, 2) := by decide +kernel
theorem dX7_lay_5 : decode cX7_lay 5 = .ok (.invokestatic 44, 3) := by decide +kernel
theorem dX7_lay_8 : decode cX7_lay 8 = .ok (.ifCond .eq 13, 3) := by decide +kernel
theorem dX7_lay_11 : decode cX7_lay 11 = .ok (.iload_n 2, 1) := by decide +kernel
theorem dX7_lay_12 : decode cX7_lay 12 = .ok (.iconst 1, 1) := by decide +kernel
theorem dX7_lay_13 : decode cX7_lay 13 = .ok (.bipush 12, 2) := by decide +kernel
theorem dX7_lay_15 : decode cX7_lay 15 = .ok (.invokestatic 44, 3) := by decide +kernel
theorem dX7_lay_18 : decode cX7_lay 18 = .ok (.ifCond .ne 6, 3) := by decide +kernel
theorem dX7_lay_21 : decode cX7_lay 21 = .ok (.bipush (-102), 2) := by decide +kernel
theorem dX7_lay_23 : decode cX7_lay 23 = .ok (.ireturn, 1) := by decide +kernel
theorem dX7_lay_24 : decode cX7_lay 24 = .ok (.aload_n 0, 1) := by decide +kernel
theorem dX7_lay_25 : decode cX7_lay 25 = .ok (.iload_n 1, 1) := by decide +kernel
theorem dX7_lay_26 : decode cX7_lay 26 = .ok (.putfield 33, 3) := by decide +kernel
theorem dX7_lay_29 : decode cX7_lay 29 = .ok (.aload_n 0, 1) := by decide +kernel
theorem dX7_lay_30 : decode cX7_lay 30 = .ok (.iload_n 2, 1) := by decide +kernel
theorem dX7_lay_31 : decode cX7_lay 31 = .ok (.putfield 37, 3) := by decide +kernel
theorem dX7_lay_34 : decode cX7_lay 34 = .ok (.iconst 0, 1) := by decide +kernel
theorem dX7_lay_35 : decode cX7_lay 35 = .ok (.istore_n 3, 1) := by decide +kernel
theorem dX7_lay_36 : decode cX7_lay 36 = .ok (.iconst 0, 1) := by decide +kernel
theorem dX7_lay_37 : decode cX7_lay 37 = .ok (.istore 4, 2) := by decide +kernel
theorem dX7_lay_39 : decode cX7_lay 39 = .ok (.iload 4, 2) := by decide +kernel
theorem dX7_lay_41 : decode cX7_lay 41 = .ok (.bipush 6, 2) := by decide +kernel
theorem dX7_lay_43 : decode cX7_lay 43 = .ok (.if_icmp .ge 18, 3) := by decide +kernel
theorem dX7_lay_46 : decode cX7_lay 46 = .ok (.iload_n 3, 1) := by decide +kernel
theorem dX7_lay_47 : decode cX7_lay 47 = .ok (.aload_n 0, 1) := by decide +kernel
theorem dX7_lay_48 : decode cX7_lay 48 = .ok (.iload 4, 2) := by decide +kernel
theorem dX7_lay_50 : decode cX7_lay 50 = .ok (.invokevirtual 146, 3) := by decide +kernel
theorem dX7_lay_53 : decode cX7_lay 53 = .ok (.iadd, 1) := by decide +kernel
theorem dX7_lay_54 : decode cX7_lay 54 = .ok (.istore_n 3, 1) := by decide +kernel
theorem dX7_lay_55 : decode cX7_lay 55 = .ok (.iinc 4 1, 3) := by decide +kernel
theorem dX7_lay_58 : decode cX7_lay 58 = .ok (.goto (-19), 3) := by decide +kernel
theorem dX7_lay_61 : decode cX7_lay 61 = .ok (.iload_n 3, 1) := by decide +kernel
theorem dX7_lay_62 : decode cX7_lay 62 = .ok (.ireturn, 1) := by decide +kernel
set_option maxRecDepth 20000 in
theorem ggX7_pages_X5_partOf : GoodIn wsX7_pages wsX5_partOf := goodIn_r _ [6, 7, 8, 9, 5, 10, 11, 78, 79, 80, 81, 82, 83, 84, 85, 86, 87] (by decide +kernel) (by decide +kernel)
set_option maxRecDepth 20000 in
theorem gX7_pages_X5_partOf : GoodIn wsX7_pages (wsV RX7 121 RX5 yX5_partOf wsX5_partOf) := goodIn_app (goodIn_of _ (by decide +kernel)) ggX7_pages_X5_partOf
set_option maxRecDepth 20000 in
theorem ggX7_pages_X7_pageCountOf : GoodIn wsX7_pages wsX7_pageCountOf := goodIn_r _ [16, 1, 17, 18, 19, 2, 3, 4, 5, 6, 7, 8, 9, 10, 11, 20, 21, 22, 23, 24, 25, 26, 27, 28, 29, 30, 31, 32, 33, 34, 35, 36, 37, 38, 39, 40, 41, 42, 43, 44, 45, 46, 47, 48, 49, 50, 51, 52, 53, 54, 55, 56, 57, 58, 59, 60, 61, 62, 63, 64, 65, 66, 67, 68, 69, 70, 71, 72, 73, 74, 75, 76, 77, 88, 89, 90, 91, 78, 79, 80, 81, 82, 83, 84, 85, 86, 87, 92, 93, 94] (by decide +kernel) (by decide +kernel)
set_option maxRecDepth 20000 in
theorem gX7_pages_X7_pageCountOf : GoodIn wsX7_pages (wsV RX7 146 RX7 yX7_pageCountOf wsX7_pageCountOf) := goodIn_app (goodIn_of _ (by decide +kernel)) ggX7_pages_X7_pageCountOf
theorem dX7_pages_0 : decode cX7_pages 0 = .ok (.aload_n 0, 1) := by decide +kernel
theorem dX7_pages_1 : decode cX7_pages 1 = .ok (.getfield 10, 3) := by decide +kernel
theorem dX7_pages_4 : decode cX7_pages 4 = .ok (.iload_n 1, 1) := by decide +kernel
theorem dX7_pages_5 : decode cX7_pages 5 = .ok (.invokevirtual 121, 3) := by decide +kernel
theorem dX7_pages_8 : decode cX7_pages 8 = .ok (.ifnonnull 6, 3) := by decide +kernel
theorem dX7_pages_11 : decode cX7_pages 11 = .ok (.bipush (-101), 2) := by decide +kernel
theorem dX7_pages_13 : decode cX7_pages 13 = .ok (.ireturn, 1) := by decide +kernel
theorem dX7_pages_14 : decode cX7_pages 14 = .ok (.aload_n 0, 1) := by decide +kernel
theorem dX7_pages_15 : decode cX7_pages 15 = .ok (.iload_n 1, 1) := by decide +kernel
theorem dX7_pages_16 : decode cX7_pages 16 = .ok (.invokevirtual 146, 3) := by decide +kernel
theorem dX7_pages_19 : decode cX7_pages 19 = .ok (.ireturn, 1) := by decide +kernel
set_option maxRecDepth 20000 in
theorem ggX7_page_X5_partOf : GoodIn wsX7_page wsX5_partOf := goodIn_r _ [7, 8, 9, 10, 6, 11, 12, 92, 93, 94, 95, 96, 97, 98, 99, 100, 101] (by decide +kernel) (by decide +kernel)
set_option maxRecDepth 20000 in
theorem gX7_page_X5_partOf : GoodIn wsX7_page (wsV RX7 121 RX5 yX5_partOf wsX5_partOf) := goodIn_app (goodIn_of _ (by decide +kernel)) ggX7_page_X5_partOf
set_option maxRecDepth 20000 in
theorem ggX7_page_X7_pageCountOf : GoodIn wsX7_page wsX7_pageCountOf := goodIn_r _ [17, 1, 2, 18, 19, 3, 4, 5, 6, 7, 8, 9, 10, 11, 12, 20, 21, 22, 23, 24, 25, 26, 27, 28, 29, 30, 31, 32, 33, 34, 35, 36, 37, 38, 39, 40, 41, 42, 43, 44, 45, 46, 47, 48, 49, 50, 51, 52, 53, 54, 55, 56, 57, 58, 59, 60, 61, 62, 63, 64, 65, 66, 67, 68, 69, 70, 71, 86, 87, 88, 89, 90, 91, 102, 103, 104, 105, 92, 93, 94, 95, 96, 97, 98, 99, 100, 101, 106, 107, 108] (by decide +kernel) (by decide +kernel)
set_option maxRecDepth 20000 in
theorem gX7_page_X7_pageCountOf : GoodIn wsX7_page (wsV RX7 146 RX7 yX7_pageCountOf wsX7_pageCountOf) := goodIn_app (goodIn_of _ (by decide +kernel)) ggX7_page_X7_pageCountOf
set_option maxRecDepth 20000 in
theorem ggX7_page_X7_isWithin : GoodIn wsX7_page wsX7_isWithin := goodIn_r _ [74] (by decide +kernel) (by decide +kernel)
set_option maxRecDepth 20000 in
theorem gX7_page_X7_isWithin : GoodIn wsX7_page (va_wsS RX7 44 yX7_isWithin wsX7_isWithin) := goodIn_app (goodIn_of _ (by decide +kernel)) ggX7_page_X7_isWithin
set_option maxRecDepth 20000 in
theorem ggX7_page_X7_lastNumberAhead : GoodIn wsX7_page wsX7_lastNumberAhead := goodIn_r _ [78, 13, 14, 15, 16, 17, 1, 2, 18, 19, 3, 4, 5, 6, 7, 8, 9, 10, 11, 12, 20, 21, 22, 23, 24, 25, 26, 27, 28, 29, 30, 31, 32, 33, 34, 35, 36, 37, 38, 39, 40, 41, 42, 43, 44, 45, 46, 47, 48, 49, 50, 51, 52, 53, 54, 55, 56, 57, 58, 59, 60, 61, 62, 63, 64, 65, 66, 67, 68, 69, 70, 71, 79, 80, 81, 86, 87, 88, 89, 90, 91, 102, 103, 104, 105, 92, 93, 94, 95, 96, 97, 98, 99, 100, 101, 106, 107, 108] (by decide +kernel) (by decide +kernel)
set_option maxRecDepth 20000 in
theorem gX7_page_X7_lastNumberAhead : GoodIn wsX7_page (wsV RX7 149 RX7 yX7_lastNumberAhead wsX7_lastNumberAhead) := goodIn_app (goodIn_of _ (by decide +kernel)) ggX7_page_X7_lastNumberAhead
set_option maxRecDepth 20000 in
theorem ggX7_page_X7_nextOdd : GoodIn wsX7_page wsX7_nextOdd := goodIn_r _ [81] (by decide +kernel) (by decide +kernel)
set_option maxRecDepth 20000 in
theorem gX7_page_X7_nextOdd : GoodIn wsX7_page (va_wsS RX7 152 yX7_nextOdd wsX7_nextOdd) := goodIn_app (goodIn_of _ (by decide +kernel)) ggX7_page_X7_nextOdd
set_option maxRecDepth 20000 in
theorem ggX7_page_X1_figure : GoodIn wsX7_page wsX1_figure := goodIn_r _ [85, 25, 59, 102, 103, 104, 105] (by decide +kernel) (by decide +kernel)
set_option maxRecDepth 20000 in
theorem gX7_page_X1_figure : GoodIn wsX7_page (wsV RX7 155 RX1 yX1_figure wsX1_figure) := goodIn_app (goodIn_of _ (by decide +kernel)) ggX7_page_X1_figure
theorem dX7_page_0 : decode cX7_page 0 = .ok (.aload_n 0, 1) := by decide +kernel
theorem dX7_page_1 : decode cX7_page 1 = .ok (.getfield 10, 3) := by decide +kernel
theorem dX7_page_4 : decode cX7_page 4 = .ok (.iload_n 1, 1) := by decide +kernel
theorem dX7_page_5 : decode cX7_page 5 = .ok (.invokevirtual 121, 3) := by decide +kernel
theorem dX7_page_8 : decode cX7_page 8 = .ok (.ifnull 18, 3) := by decide +kernel
theorem dX7_page_11 : decode cX7_page 11 = .ok (.iload_n 2, 1) := by decide +kernel
theorem dX7_page_12 : decode cX7_page 12 = .ok (.iconst 0, 1) := by decide +kernel
theorem dX7_page_13 : decode cX7_page 13 = .ok (.aload_n 0, 1) := by decide +kernel
theorem dX7_page_14 : decode cX7_page 14 = .ok (.iload_n 1, 1) := by decide +kernel
theorem dX7_page_15 : decode cX7_page 15 = .ok (.invokevirtual 146, 3) := by decide +kernel
theorem dX7_page_18 : decode cX7_page 18 = .ok (.iconst 1, 1) := by decide +kernel
theorem dX7_page_19 : decode cX7_page 19 = .ok (.isub, 1) := by decide +kernel
theorem dX7_page_20 : decode cX7_page 20 = .ok (.invokestatic 44, 3) := by decide +kernel
theorem dX7_page_23 : decode cX7_page 23 = .ok (.ifCond .ne 6, 3) := by decide +kernel
theorem dX7_page_26 : decode cX7_page 26 = .ok (.bipush (-101), 2) := by decide +kernel
theorem dX7_page_28 : decode cX7_page 28 = .ok (.ireturn, 1) := by decide +kernel
theorem dX7_page_29 : decode cX7_page 29 = .ok (.iload_n 3, 1) := by decide +kernel
theorem dX7_page_30 : decode cX7_page 30 = .ok (.iconst 0, 1) := by decide +kernel
theorem dX7_page_31 : decode cX7_page 31 = .ok (.iconst 4, 1) := by decide +kernel
theorem dX7_page_32 : decode cX7_page 32 = .ok (.invokestatic 44, 3) := by decide +kernel
theorem dX7_page_35 : decode cX7_page 35 = .ok (.ifCond .ne 6, 3) := by decide +kernel
theorem dX7_page_38 : decode cX7_page 38 = .ok (.bipush (-102), 2) := by decide +kernel
theorem dX7_page_40 : decode cX7_page 40 = .ok (.ireturn, 1) := by decide +kernel
theorem dX7_page_41 : decode cX7_page 41 = .ok (.iload_n 3, 1) := by decide +kernel
theorem dX7_page_42 : decode cX7_page 42 = .ok (.iconst 4, 1) := by decide +kernel
theorem dX7_page_43 : decode cX7_page 43 = .ok (.if_icmp .ne 14, 3) := by decide +kernel
theorem dX7_page_46 : decode cX7_page 46 = .ok (.aload_n 0, 1) := by decide +kernel
theorem dX7_page_47 : decode cX7_page 47 = .ok (.iload_n 1, 1) := by decide +kernel
theorem dX7_page_48 : decode cX7_page 48 = .ok (.invokevirtual 149, 3) := by decide +kernel
theorem dX7_page_51 : decode cX7_page 51 = .ok (.invokestatic 152, 3) := by decide +kernel
theorem dX7_page_54 : decode cX7_page 54 = .ok (.iload_n 2, 1) := by decide +kernel
theorem dX7_page_55 : decode cX7_page 55 = .ok (.iadd, 1) := by decide +kernel
theorem dX7_page_56 : decode cX7_page 56 = .ok (.ireturn, 1) := by decide +kernel
theorem dX7_page_57 : decode cX7_page 57 = .ok (.aload_n 0, 1) := by decide +kernel
theorem dX7_page_58 : decode cX7_page 58 = .ok (.getfield 19, 3) := by decide +kernel
theorem dX7_page_61 : decode cX7_page 61 = .ok (.iload_n 2, 1) := by decide +kernel
theorem dX7_page_62 : decode cX7_page 62 = .ok (.iload_n 3, 1) := by decide +kernel
theorem dX7_page_63 : decode cX7_page 63 = .ok (.invokevirtual 155, 3) := by decide +kernel
theorem dX7_page_66 : decode cX7_page 66 = .ok (.ireturn, 1) := by decide +kernel
set_option maxRecDepth 20000 in
theorem ggX7_condensed_X5_voiceAt : GoodIn wsX7_condensed wsX5_voiceAt := goodIn_r _ [6, 7, 52, 53, 54, 55, 56] (by decide +kernel) (by decide +kernel)
set_option maxRecDepth 20000 in
theorem gX7_condensed_X5_voiceAt : GoodIn wsX7_condensed (wsV RX7 52 RX5 yX5_voiceAt wsX5_voiceAt) := goodIn_app (goodIn_of _ (by decide +kernel)) ggX7_condensed_X5_voiceAt
set_option maxRecDepth 20000 in
theorem ggX7_condensed_X5_hasBar : GoodIn wsX7_condensed wsX5_hasBar := goodIn_r _ [11, 12, 52, 53, 54, 55, 56] (by decide +kernel) (by decide +kernel)
set_option maxRecDepth 20000 in
theorem gX7_condensed_X5_hasBar : GoodIn wsX7_condensed (wsV RX7 56 RX5 yX5_hasBar wsX5_hasBar) := goodIn_app (goodIn_of _ (by decide +kernel)) ggX7_condensed_X5_hasBar
set_option maxRecDepth 20000 in
theorem ggX7_condensed_X7_condense : GoodIn wsX7_condensed wsX7_condense := goodIn_r _ [16, 17, 18, 19, 20, 21, 22, 23, 24, 25, 26, 27, 28, 29, 30, 31, 32, 33, 34, 35, 36, 37, 38, 39, 40, 57, 58] (by decide +kernel) (by decide +kernel)
set_option maxRecDepth 20000 in
theorem gX7_condensed_X7_condense : GoodIn wsX7_condensed (va_wsS RX7 156 yX7_condense wsX7_condense) := goodIn_app (goodIn_of _ (by decide +kernel)) ggX7_condensed_X7_condense
theorem dX7_condensed_0 : decode cX7_condensed 0 = .ok (.aload_n 0, 1) := by decide +kernel
theorem dX7_condensed_1 : decode cX7_condensed 1 = .ok (.getfield 10, 3) := by decide +kernel
theorem dX7_condensed_4 : decode cX7_condensed 4 = .ok (.iload_n 1, 1) := by decide +kernel
theorem dX7_condensed_5 : decode cX7_condensed 5 = .ok (.invokevirtual 52, 3) := by decide +kernel
theorem dX7_condensed_8 : decode cX7_condensed 8 = .ok (.astore 4, 2) := by decide +kernel
theorem dX7_condensed_10 : decode cX7_condensed 10 = .ok (.aload_n 0, 1) := by decide +kernel
theorem dX7_condensed_11 : decode cX7_condensed 11 = .ok (.getfield 10, 3) := by decide +kernel
theorem dX7_condensed_14 : decode cX7_condensed 14 = .ok (.iload_n 2, 1) := by decide +kernel
theorem dX7_condensed_15 : decode cX7_condensed 15 = .ok (.invokevirtual 52, 3) := by decide +kernel
theorem dX7_condensed_18 : decode cX7_condensed 18 = .ok (.astore 5, 2) := by decide +kernel
theorem dX7_condensed_20 : decode cX7_condensed 20 = .ok (.aload 4, 2) := by decide +kernel
theorem dX7_condensed_22 : decode cX7_condensed 22 = .ok (.ifnull 19, 3) := by decide +kernel
theorem dX7_condensed_25 : decode cX7_condensed 25 = .ok (.aload 5, 2) := by decide +kernel
theorem dX7_condensed_27 : decode cX7_condensed 27 = .ok (.ifnull 14, 3) := by decide +kernel
theorem dX7_condensed_30 : decode cX7_condensed 30 = .ok (.aload_n 0, 1) := by decide +kernel
theorem dX7_condensed_31 : decode cX7_condensed 31 = .ok (.getfield 10, 3) := by decide +kernel
theorem dX7_condensed_34 : decode cX7_condensed 34 = .ok (.iload_n 3, 1) := by decide +kernel
theorem dX7_condensed_35 : decode cX7_condensed 35 = .ok (.invokevirtual 56, 3) := by decide +kernel
theorem dX7_condensed_38 : decode cX7_condensed 38 = .ok (.ifCond .ne 6, 3) := by decide +kernel
theorem dX7_condensed_41 : decode cX7_condensed 41 = .ok (.bipush (-101), 2) := by decide +kernel
theorem dX7_condensed_43 : decode cX7_condensed 43 = .ok (.ireturn, 1) := by decide +kernel
theorem dX7_condensed_44 : decode cX7_condensed 44 = .ok (.iload_n 1, 1) := by decide +kernel
theorem dX7_condensed_45 : decode cX7_condensed 45 = .ok (.iload_n 2, 1) := by decide +kernel
theorem dX7_condensed_46 : decode cX7_condensed 46 = .ok (.if_icmp .ne 6, 3) := by decide +kernel
theorem dX7_condensed_49 : decode cX7_condensed 49 = .ok (.bipush (-103), 2) := by decide +kernel
theorem dX7_condensed_51 : decode cX7_condensed 51 = .ok (.ireturn, 1) := by decide +kernel
theorem dX7_condensed_52 : decode cX7_condensed 52 = .ok (.aload 4, 2) := by decide +kernel
theorem dX7_condensed_54 : decode cX7_condensed 54 = .ok (.getfield 64, 3) := by decide +kernel
theorem dX7_condensed_57 : decode cX7_condensed 57 = .ok (.aload 5, 2) := by decide +kernel
theorem dX7_condensed_59 : decode cX7_condensed 59 = .ok (.getfield 64, 3) := by decide +kernel
theorem dX7_condensed_62 : decode cX7_condensed 62 = .ok (.iload_n 3, 1) := by decide +kernel
theorem dX7_condensed_63 : decode cX7_condensed 63 = .ok (.invokestatic 156, 3) := by decide +kernel
theorem dX7_condensed_66 : decode cX7_condensed 66 = .ok (.ireturn, 1) := by decide +kernel
set_option maxRecDepth 20000 in
theorem ggX7_together_X5_voiceAt : GoodIn wsX7_together wsX5_voiceAt := goodIn_r _ [6, 7, 42, 43, 44, 45, 46] (by decide +kernel) (by decide +kernel)
set_option maxRecDepth 20000 in
theorem gX7_together_X5_voiceAt : GoodIn wsX7_together (wsV RX7 52 RX5 yX5_voiceAt wsX5_voiceAt) := goodIn_app (goodIn_of _ (by decide +kernel)) ggX7_together_X5_voiceAt
set_option maxRecDepth 20000 in
theorem ggX7_together_X7_condense : GoodIn wsX7_together wsX7_condense := goodIn_r _ [11, 12, 13, 14, 15, 16, 17, 18, 19, 20, 21, 22, 23, 24, 25, 26, 27, 28, 29, 30, 31, 32, 33, 34, 35, 52, 53] (by decide +kernel) (by decide +kernel)
set_option maxRecDepth 20000 in
theorem gX7_together_X7_condense : GoodIn wsX7_together (va_wsS RX7 156 yX7_condense wsX7_condense) := goodIn_app (goodIn_of _ (by decide +kernel)) ggX7_together_X7_condense
theorem dX7_together_0 : decode cX7_together 0 = .ok (.aload_n 0, 1) := by decide +kernel
theorem dX7_together_1 : decode cX7_together 1 = .ok (.getfield 10, 3) := by decide +kernel
theorem dX7_together_4 : decode cX7_together 4 = .ok (.iload_n 1, 1) := by decide +kernel
theorem dX7_together_5 : decode cX7_together 5 = .ok (.invokevirtual 52, 3) := by decide +kernel
theorem dX7_together_8 : decode cX7_together 8 = .ok (.astore_n 3, 1) := by decide +kernel
theorem dX7_together_9 : decode cX7_together 9 = .ok (.aload_n 0, 1) := by decide +kernel
theorem dX7_together_10 : decode cX7_together 10 = .ok (.getfield 10, 3) := by decide +kernel
theorem dX7_together_13 : decode cX7_together 13 = .ok (.iload_n 2, 1) := by decide +kernel
theorem dX7_together_14 : decode cX7_together 14 = .ok (.invokevirtual 52, 3) := by decide +kernel
theorem dX7_together_17 : decode cX7_together 17 = .ok (.astore 4, 2) := by decide +kernel
theorem dX7_together_19 : decode cX7_together 19 = .ok (.aload_n 3, 1) := by decide +kernel
theorem dX7_together_20 : decode cX7_together 20 = .ok (.ifnull 8, 3) := by decide +kernel
theorem dX7_together_23 : decode cX7_together 23 = .ok (.aload 4, 2) := by decide +kernel
theorem dX7_together_25 : decode cX7_together 25 = .ok (.ifnonnull 6, 3) := by decide +kernel
theorem dX7_together_28 : decode cX7_together 28 = .ok (.bipush (-101), 2) := by decide +kernel
theorem dX7_together_30 : decode cX7_together 30 = .ok (.ireturn, 1) := by decide +kernel
theorem dX7_together_31 : decode cX7_together 31 = .ok (.iload_n 1, 1) := by decide +kernel
theorem dX7_together_32 : decode cX7_together 32 = .ok (.iload_n 2, 1) := by decide +kernel
theorem dX7_together_33 : decode cX7_together 33 = .ok (.if_icmp .ne 6, 3) := by decide +kernel
theorem dX7_together_36 : decode cX7_together 36 = .ok (.bipush (-103), 2) := by decide +kernel
theorem dX7_together_38 : decode cX7_together 38 = .ok (.ireturn, 1) := by decide +kernel
theorem dX7_together_39 : decode cX7_together 39 = .ok (.iconst 0, 1) := by decide +kernel
theorem dX7_together_40 : decode cX7_together 40 = .ok (.istore 5, 2) := by decide +kernel
theorem dX7_together_42 : decode cX7_together 42 = .ok (.iconst 0, 1) := by decide +kernel
theorem dX7_together_43 : decode cX7_together 43 = .ok (.istore 6, 2) := by decide +kernel
theorem dX7_together_45 : decode cX7_together 45 = .ok (.iload 6, 2) := by decide +kernel
theorem dX7_together_47 : decode cX7_together 47 = .ok (.aload_n 0, 1) := by decide +kernel
theorem dX7_together_48 : decode cX7_together 48 = .ok (.getfield 10, 3) := by decide +kernel
theorem dX7_together_51 : decode cX7_together 51 = .ok (.getfield 160, 3) := by decide +kernel
theorem dX7_together_54 : decode cX7_together 54 = .ok (.if_icmp .ge 30, 3) := by decide +kernel
theorem dX7_together_57 : decode cX7_together 57 = .ok (.aload_n 3, 1) := by decide +kernel
theorem dX7_together_58 : decode cX7_together 58 = .ok (.getfield 64, 3) := by decide +kernel
theorem dX7_together_61 : decode cX7_together 61 = .ok (.aload 4, 2) := by decide +kernel
theorem dX7_together_63 : decode cX7_together 63 = .ok (.getfield 64, 3) := by decide +kernel
theorem dX7_together_66 : decode cX7_together 66 = .ok (.iload 6, 2) := by decide +kernel
theorem dX7_together_68 : decode cX7_together 68 = .ok (.invokestatic 156, 3) := by decide +kernel
theorem dX7_together_71 : decode cX7_together 71 = .ok (.iconst 5, 1) := by decide +kernel
theorem dX7_together_72 : decode cX7_together 72 = .ok (.if_icmp .eq 6, 3) := by decide +kernel
theorem dX7_together_75 : decode cX7_together 75 = .ok (.iinc 5 1, 3) := by decide +kernel
theorem dX7_together_78 : decode cX7_together 78 = .ok (.iinc 6 1, 3) := by decide +kernel
theorem dX7_together_81 : decode cX7_together 81 = .ok (.goto (-36), 3) := by decide +kernel
theorem dX7_together_84 : decode cX7_together 84 = .ok (.iload 5, 2) := by decide +kernel
theorem dX7_together_86 : decode cX7_together 86 = .ok (.ireturn, 1) := by decide +kernel
set_option maxRecDepth 20000 in
theorem ggX7_count_X5_noteTotal : GoodIn wsX7_count wsX5_noteTotal := goodIn_r _ [6, 7, 8, 9, 5, 10, 11, 12, 13, 14, 15, 16, 17, 111, 112, 113, 114, 115, 106, 107, 108, 109, 110, 116, 117] (by decide +kernel) (by decide +kernel)
set_option maxRecDepth 20000 in
theorem gX7_count_X5_noteTotal : GoodIn wsX7_count (wsV RX7 166 RX5 yX5_noteTotal wsX5_noteTotal) := goodIn_app (goodIn_of _ (by decide +kernel)) ggX7_count_X5_noteTotal
set_option maxRecDepth 20000 in
theorem ggX7_count_X5_partTotal : GoodIn wsX7_count wsX5_partTotal := goodIn_r _ [21, 22, 23, 24, 5, 25, 7, 8, 9, 10, 11, 111, 112, 113, 114, 115, 106, 107, 108, 109, 110] (by decide +kernel) (by decide +kernel)
set_option maxRecDepth 20000 in
theorem gX7_count_X5_partTotal : GoodIn wsX7_count (wsV RX7 169 RX5 yX5_partTotal wsX5_partTotal) := goodIn_app (goodIn_of _ (by decide +kernel)) ggX7_count_X5_partTotal
set_option maxRecDepth 20000 in
theorem ggX7_count_X7_lastNumberAhead : GoodIn wsX7_count wsX7_lastNumberAhead := goodIn_r _ [30, 31, 32, 33, 29, 34, 1, 35, 36, 37, 38, 23, 24, 5, 25, 7, 8, 9, 10, 11, 39, 40, 41, 42, 43, 44, 45, 46, 47, 48, 49, 50, 51, 52, 53, 54, 55, 56, 57, 58, 59, 60, 61, 62, 63, 64, 65, 66, 67, 68, 69, 70, 71, 72, 73, 74, 75, 76, 77, 78, 79, 80, 81, 82, 83, 84, 85, 86, 87, 88, 89, 90, 91, 92, 93, 100, 101, 102, 103, 104, 105, 118, 119, 120, 121, 111, 112, 113, 114, 115, 106, 107, 108, 109, 110, 122, 123, 124] (by decide +kernel) (by decide +kernel)
set_option maxRecDepth 20000 in
theorem gX7_count_X7_lastNumberAhead : GoodIn wsX7_count (wsV RX7 149 RX7 yX7_lastNumberAhead wsX7_lastNumberAhead) := goodIn_app (goodIn_of _ (by decide +kernel)) ggX7_count_X7_lastNumberAhead
set_option maxRecDepth 20000 in
theorem ggX7_count_X2_total : GoodIn wsX7_count wsX2_total := goodIn_r _ [98, 99, 125] (by decide +kernel) (by decide +kernel)
set_option maxRecDepth 20000 in
theorem gX7_count_X2_total : GoodIn wsX7_count (wsV RX7 172 RX2 yX2_total wsX2_total) := goodIn_app (goodIn_of _ (by decide +kernel)) ggX7_count_X2_total
theorem dX7_count_0 : decode cX7_count 0 = .ok (.iload_n 1, 1) := by decide +kernel
theorem dX7_count_1 : decode cX7_count 1 = .ok (.tableswitch 89 0 5 #[39, 47, 55, 63, 71, 78], 39) := by decide +kernel
theorem dX7_count_40 : decode cX7_count 40 = .ok (.aload_n 0, 1) := by decide +kernel
theorem dX7_count_41 : decode cX7_count 41 = .ok (.getfield 10, 3) := by decide +kernel
theorem dX7_count_44 : decode cX7_count 44 = .ok (.getfield 163, 3) := by decide +kernel
theorem dX7_count_47 : decode cX7_count 47 = .ok (.ireturn, 1) := by decide +kernel
theorem dX7_count_48 : decode cX7_count 48 = .ok (.aload_n 0, 1) := by decide +kernel
theorem dX7_count_49 : decode cX7_count 49 = .ok (.getfield 10, 3) := by decide +kernel
theorem dX7_count_52 : decode cX7_count 52 = .ok (.getfield 160, 3) := by decide +kernel
theorem dX7_count_55 : decode cX7_count 55 = .ok (.ireturn, 1) := by decide +kernel
theorem dX7_count_56 : decode cX7_count 56 = .ok (.aload_n 0, 1) := by decide +kernel
theorem dX7_count_57 : decode cX7_count 57 = .ok (.getfield 10, 3) := by decide +kernel
theorem dX7_count_60 : decode cX7_count 60 = .ok (.invokevirtual 166, 3) := by decide +kernel
theorem dX7_count_63 : decode cX7_count 63 = .ok (.ireturn, 1) := by decide +kernel
theorem dX7_count_64 : decode cX7_count 64 = .ok (.aload_n 0, 1) := by decide +kernel
theorem dX7_count_65 : decode cX7_count 65 = .ok (.getfield 10, 3) := by decide +kernel
theorem dX7_count_68 : decode cX7_count 68 = .ok (.invokevirtual 169, 3) := by decide +kernel
theorem dX7_count_71 : decode cX7_count 71 = .ok (.ireturn, 1) := by decide +kernel
theorem dX7_count_72 : decode cX7_count 72 = .ok (.aload_n 0, 1) := by decide +kernel
theorem dX7_count_73 : decode cX7_count 73 = .ok (.bipush 6, 2) := by decide +kernel
theorem dX7_count_75 : decode cX7_count 75 = .ok (.invokevirtual 149, 3) := by decide +kernel
theorem dX7_count_78 : decode cX7_count 78 = .ok (.ireturn, 1) := by decide +kernel
theorem dX7_count_79 : decode cX7_count 79 = .ok (.aload_n 0, 1) := by decide +kernel
theorem dX7_count_80 : decode cX7_count 80 = .ok (.getfield 10, 3) := by decide +kernel
theorem dX7_count_83 : decode cX7_count 83 = .ok (.getfield 90, 3) := by decide +kernel
theorem dX7_count_86 : decode cX7_count 86 = .ok (.invokevirtual 172, 3) := by decide +kernel
theorem dX7_count_89 : decode cX7_count 89 = .ok (.ireturn, 1) := by decide +kernel
theorem dX7_count_90 : decode cX7_count 90 = .ok (.bipush (-102), 2) := by decide +kernel
theorem dX7_count_92 : decode cX7_count 92 = .ok (.ireturn, 1) := by decide +kernel
theorem dX7_isWithin_0 : decode cX7_isWithin 0 = .ok (.iload_n 0, 1) := by decide +kernel
theorem dX7_isWithin_1 : decode cX7_isWithin 1 = .ok (.iload_n 1, 1) := by decide +kernel
theorem dX7_isWithin_2 : decode cX7_isWithin 2 = .ok (.if_icmp .lt 12, 3) := by decide +kernel
theorem dX7_isWithin_5 : decode cX7_isWithin 5 = .ok (.iload_n 0, 1) := by decide +kernel
theorem dX7_isWithin_6 : decode cX7_isWithin 6 = .ok (.iload_n 2, 1) := by decide +kernel
theorem dX7_isWithin_7 : decode cX7_isWithin 7 = .ok (.if_icmp .gt 7, 3) := by decide +kernel
theorem dX7_isWithin_10 : decode cX7_isWithin 10 = .ok (.iconst 1, 1) := by decide +kernel
theorem dX7_isWithin_11 : decode cX7_isWithin 11 = .ok (.goto 4, 3) := by decide +kernel
theorem dX7_isWithin_14 : decode cX7_isWithin 14 = .ok (.iconst 0, 1) := by decide +kernel
theorem dX7_isWithin_15 : decode cX7_isWithin 15 = .ok (.ireturn, 1) := by decide +kernel
set_option maxRecDepth 20000 in
theorem ggX7_isNote_X7_isWithin : GoodIn wsX7_isNote wsX7_isWithin := goodIn_r _ [4] (by decide +kernel) (by decide +kernel)
set_option maxRecDepth 20000 in
theorem gX7_isNote_X7_isWithin : GoodIn wsX7_isNote (va_wsS RX7 44 yX7_isWithin wsX7_isWithin) := goodIn_app (goodIn_of _ (by decide +kernel)) ggX7_isNote_X7_isWithin
set_option maxRecDepth 20000 in
theorem ggX7_isNote_J9_floorMod_7cf53 : GoodIn wsX7_isNote wsJ9_floorMod_7cf53 := goodIn_r _ [8] (by decide +kernel) (by decide +kernel)
set_option maxRecDepth 20000 in
theorem gX7_isNote_J9_floorMod_7cf53 : GoodIn wsX7_isNote (va_wsS RX7 173 yJ9_floorMod_7cf53 wsJ9_floorMod_7cf53) := goodIn_app (goodIn_of _ (by decide +kernel)) ggX7_isNote_J9_floorMod_7cf53
theorem dX7_isNote_0 : decode cX7_isNote 0 = .ok (.iload_n 0, 1) := by decide +kernel
theorem dX7_isNote_1 : decode cX7_isNote 1 = .ok (.iconst 0, 1) := by decide +kernel
theorem dX7_isNote_2 : decode cX7_isNote 2 = .ok (.bipush 47, 2) := by decide +kernel
theorem dX7_isNote_4 : decode cX7_isNote 4 = .ok (.invokestatic 44, 3) := by decide +kernel
theorem dX7_isNote_7 : decode cX7_isNote 7 = .ok (.ifCond .eq 56, 3) := by decide +kernel
theorem dX7_isNote_10 : decode cX7_isNote 10 = .ok (.iload_n 1, 1) := by decide +kernel
theorem dX7_isNote_11 : decode cX7_isNote 11 = .ok (.iconst 1, 1) := by decide +kernel
theorem dX7_isNote_12 : decode cX7_isNote 12 = .ok (.bipush 48, 2) := by decide +kernel
theorem dX7_isNote_14 : decode cX7_isNote 14 = .ok (.iload_n 0, 1) := by decide +kernel
theorem dX7_isNote_15 : decode cX7_isNote 15 = .ok (.isub, 1) := by decide +kernel
theorem dX7_isNote_16 : decode cX7_isNote 16 = .ok (.invokestatic 44, 3) := by decide +kernel
theorem dX7_isNote_19 : decode cX7_isNote 19 = .ok (.ifCond .eq 44, 3) := by decide +kernel
theorem dX7_isNote_22 : decode cX7_isNote 22 = .ok (.iload_n 2, 1) := by decide +kernel
theorem dX7_isNote_23 : decode cX7_isNote 23 = .ok (.iconst 0, 1) := by decide +kernel
theorem dX7_isNote_24 : decode cX7_isNote 24 = .ok (.bipush 127, 2) := by decide +kernel
theorem dX7_isNote_26 : decode cX7_isNote 26 = .ok (.invokestatic 44, 3) := by decide +kernel
theorem dX7_isNote_29 : decode cX7_isNote 29 = .ok (.ifCond .eq 34, 3) := by decide +kernel
theorem dX7_isNote_32 : decode cX7_isNote 32 = .ok (.iload_n 3, 1) := by decide +kernel
theorem dX7_isNote_33 : decode cX7_isNote 33 = .ok (.bipush (-15), 2) := by decide +kernel
theorem dX7_isNote_35 : decode cX7_isNote 35 = .ok (.bipush 19, 2) := by decide +kernel
theorem dX7_isNote_37 : decode cX7_isNote 37 = .ok (.invokestatic 44, 3) := by decide +kernel
theorem dX7_isNote_40 : decode cX7_isNote 40 = .ok (.ifCond .eq 23, 3) := by decide +kernel
theorem dX7_isNote_43 : decode cX7_isNote 43 = .ok (.bipush 7, 2) := by decide +kernel
theorem dX7_isNote_45 : decode cX7_isNote 45 = .ok (.iload_n 3, 1) := by decide +kernel
theorem dX7_isNote_46 : decode cX7_isNote 46 = .ok (.imul, 1) := by decide +kernel
theorem dX7_isNote_47 : decode cX7_isNote 47 = .ok (.bipush 12, 2) := by decide +kernel
theorem dX7_isNote_49 : decode cX7_isNote 49 = .ok (.invokestatic 173, 3) := by decide +kernel
theorem dX7_isNote_52 : decode cX7_isNote 52 = .ok (.iload_n 2, 1) := by decide +kernel
theorem dX7_isNote_53 : decode cX7_isNote 53 = .ok (.bipush 12, 2) := by decide +kernel
theorem dX7_isNote_55 : decode cX7_isNote 55 = .ok (.irem, 1) := by decide +kernel
theorem dX7_isNote_56 : decode cX7_isNote 56 = .ok (.if_icmp .ne 7, 3) := by decide +kernel
theorem dX7_isNote_59 : decode cX7_isNote 59 = .ok (.iconst 1, 1) := by decide +kernel
theorem dX7_isNote_60 : decode cX7_isNote 60 = .ok (.goto 4, 3) := by decide +kernel
theorem dX7_isNote_63 : decode cX7_isNote 63 = .ok (.iconst 0, 1) := by decide +kernel
theorem dX7_isNote_64 : decode cX7_isNote 64 = .ok (.ireturn, 1) := by decide +kernel
set_option maxRecDepth 20000 in
theorem ggX7_isMark_X7_isWithin : GoodIn wsX7_isMark wsX7_isWithin := goodIn_r _ [4] (by decide +kernel) (by decide +kernel)
set_option maxRecDepth 20000 in
theorem gX7_isMark_X7_isWithin : GoodIn wsX7_isMark (va_wsS RX7 44 yX7_isWithin wsX7_isWithin) := goodIn_app (goodIn_of _ (by decide +kernel)) ggX7_isMark_X7_isWithin
theorem dX7_isMark_0 : decode cX7_isMark 0 = .ok (.iload_n 0, 1) := by decide +kernel
theorem dX7_isMark_1 : decode cX7_isMark 1 = .ok (.ifCond .ne 12, 3) := by decide +kernel
theorem dX7_isMark_4 : decode cX7_isMark 4 = .ok (.iload_n 1, 1) := by decide +kernel
theorem dX7_isMark_5 : decode cX7_isMark 5 = .ok (.bipush (-7), 2) := by decide +kernel
theorem dX7_isMark_7 : decode cX7_isMark 7 = .ok (.bipush 7, 2) := by decide +kernel
theorem dX7_isMark_9 : decode cX7_isMark 9 = .ok (.invokestatic 44, 3) := by decide +kernel
theorem dX7_isMark_12 : decode cX7_isMark 12 = .ok (.ireturn, 1) := by decide +kernel
theorem dX7_isMark_13 : decode cX7_isMark 13 = .ok (.iload_n 0, 1) := by decide +kernel
theorem dX7_isMark_14 : decode cX7_isMark 14 = .ok (.iconst 0, 1) := by decide +kernel
theorem dX7_isMark_15 : decode cX7_isMark 15 = .ok (.iconst 4, 1) := by decide +kernel
theorem dX7_isMark_16 : decode cX7_isMark 16 = .ok (.invokestatic 44, 3) := by decide +kernel
theorem dX7_isMark_19 : decode cX7_isMark 19 = .ok (.ifCond .eq 18, 3) := by decide +kernel
theorem dX7_isMark_22 : decode cX7_isMark 22 = .ok (.iload_n 1, 1) := by decide +kernel
theorem dX7_isMark_23 : decode cX7_isMark 23 = .ok (.iconst 0, 1) := by decide +kernel
theorem dX7_isMark_24 : decode cX7_isMark 24 = .ok (.sipush 999, 3) := by decide +kernel
theorem dX7_isMark_27 : decode cX7_isMark 27 = .ok (.invokestatic 44, 3) := by decide +kernel
theorem dX7_isMark_30 : decode cX7_isMark 30 = .ok (.ifCond .eq 7, 3) := by decide +kernel
theorem dX7_isMark_33 : decode cX7_isMark 33 = .ok (.iconst 1, 1) := by decide +kernel
theorem dX7_isMark_34 : decode cX7_isMark 34 = .ok (.goto 4, 3) := by decide +kernel
theorem dX7_isMark_37 : decode cX7_isMark 37 = .ok (.iconst 0, 1) := by decide +kernel
theorem dX7_isMark_38 : decode cX7_isMark 38 = .ok (.ireturn, 1) := by decide +kernel
set_option maxRecDepth 20000 in
theorem ggX7_pageCountOf_X5_partOf : GoodIn wsX7_pageCountOf wsX5_partOf := goodIn_r _ [9, 10, 11, 12, 8, 13, 14, 77, 78, 79, 80, 81, 82, 83, 84, 85, 86] (by decide +kernel) (by decide +kernel)
set_option maxRecDepth 20000 in
theorem gX7_pageCountOf_X5_partOf : GoodIn wsX7_pageCountOf (wsV RX7 121 RX5 yX5_partOf wsX5_partOf) := goodIn_app (goodIn_of _ (by decide +kernel)) ggX7_pageCountOf_X5_partOf
set_option maxRecDepth 20000 in
theorem ggX7_pageCountOf_X1_arrange : GoodIn wsX7_pageCountOf wsX1_arrange := goodIn_r _ [19, 20, 21, 22, 23, 24, 18, 25, 26, 27, 28, 29, 30, 31, 32, 33, 34, 35, 36, 37, 38, 39, 40, 41, 42, 43, 44, 45, 46, 47, 48, 49, 50, 51, 52, 53, 54, 55, 56, 57, 58, 59, 60, 61, 62, 63, 64, 65, 66, 73, 74, 75, 76, 87, 88, 89] (by decide +kernel) (by decide +kernel)
set_option maxRecDepth 20000 in
theorem gX7_pageCountOf_X1_arrange : GoodIn wsX7_pageCountOf (wsV RX7 178 RX1 yX1_arrange wsX1_arrange) := goodIn_app (goodIn_of _ (by decide +kernel)) ggX7_pageCountOf_X1_arrange
theorem dX7_pageCountOf_0 : decode cX7_pageCountOf 0 = .ok (.aload_n 0, 1) := by decide +kernel
theorem dX7_pageCountOf_1 : decode cX7_pageCountOf 1 = .ok (.getfield 10, 3) := by decide +kernel
theorem dX7_pageCountOf_4 : decode cX7_pageCountOf 4 = .ok (.iload_n 1, 1) := by decide +kernel
theorem dX7_pageCountOf_5 : decode cX7_pageCountOf 5 = .ok (.invokevirtual 121, 3) := by decide +kernel
theorem dX7_pageCountOf_8 : decode cX7_pageCountOf 8 = .ok (.astore_n 2, 1) := by decide +kernel
theorem dX7_pageCountOf_9 : decode cX7_pageCountOf 9 = .ok (.aload_n 2, 1) := by decide +kernel
theorem dX7_pageCountOf_10 : decode cX7_pageCountOf 10 = .ok (.ifnonnull 5, 3) := by decide +kernel
theorem dX7_pageCountOf_13 : decode cX7_pageCountOf 13 = .ok (.iconst 0, 1) := by decide +kernel
theorem dX7_pageCountOf_14 : decode cX7_pageCountOf 14 = .ok (.ireturn, 1) := by decide +kernel
theorem dX7_pageCountOf_15 : decode cX7_pageCountOf 15 = .ok (.aload_n 0, 1) := by decide +kernel
theorem dX7_pageCountOf_16 : decode cX7_pageCountOf 16 = .ok (.getfield 19, 3) := by decide +kernel
theorem dX7_pageCountOf_19 : decode cX7_pageCountOf 19 = .ok (.aload_n 2, 1) := by decide +kernel
theorem dX7_pageCountOf_20 : decode cX7_pageCountOf 20 = .ok (.aload_n 0, 1) := by decide +kernel
theorem dX7_pageCountOf_21 : decode cX7_pageCountOf 21 = .ok (.getfield 33, 3) := by decide +kernel
theorem dX7_pageCountOf_24 : decode cX7_pageCountOf 24 = .ok (.aload_n 0, 1) := by decide +kernel
theorem dX7_pageCountOf_25 : decode cX7_pageCountOf 25 = .ok (.getfield 37, 3) := by decide +kernel
theorem dX7_pageCountOf_28 : decode cX7_pageCountOf 28 = .ok (.invokevirtual 178, 3) := by decide +kernel
theorem dX7_pageCountOf_31 : decode cX7_pageCountOf 31 = .ok (.aload_n 0, 1) := by decide +kernel
theorem dX7_pageCountOf_32 : decode cX7_pageCountOf 32 = .ok (.getfield 19, 3) := by decide +kernel
theorem dX7_pageCountOf_35 : decode cX7_pageCountOf 35 = .ok (.getfield 182, 3) := by decide +kernel
theorem dX7_pageCountOf_38 : decode cX7_pageCountOf 38 = .ok (.ireturn, 1) := by decide +kernel
set_option maxRecDepth 20000 in
theorem ggX7_lastNumberAhead_X7_pageCountOf : GoodIn wsX7_lastNumberAhead wsX7_pageCountOf := goodIn_r _ [5, 6, 7, 8, 9, 10, 11, 12, 13, 14, 15, 16, 17, 18, 19, 20, 21, 22, 23, 24, 25, 26, 27, 28, 29, 30, 31, 32, 33, 34, 35, 36, 37, 38, 39, 40, 41, 42, 43, 44, 45, 46, 47, 48, 49, 50, 51, 52, 53, 54, 55, 56, 57, 58, 59, 60, 61, 62, 63, 64, 65, 66, 67, 68, 69, 70, 71, 75, 76, 77, 78, 79, 80, 81, 82, 83, 84, 85, 86, 87, 88, 89, 90, 91, 92, 93, 94, 95, 96, 97] (by decide +kernel) (by decide +kernel)
set_option maxRecDepth 20000 in
theorem gX7_lastNumberAhead_X7_pageCountOf : GoodIn wsX7_lastNumberAhead (wsV RX7 146 RX7 yX7_pageCountOf wsX7_pageCountOf) := goodIn_app (goodIn_of _ (by decide +kernel)) ggX7_lastNumberAhead_X7_pageCountOf
set_option maxRecDepth 20000 in
theorem ggX7_lastNumberAhead_X7_nextOdd : GoodIn wsX7_lastNumberAhead wsX7_nextOdd := goodIn_r _ [74] (by decide +kernel) (by decide +kernel)
set_option maxRecDepth 20000 in
theorem gX7_lastNumberAhead_X7_nextOdd : GoodIn wsX7_lastNumberAhead (va_wsS RX7 152 yX7_nextOdd wsX7_nextOdd) := goodIn_app (goodIn_of _ (by decide +kernel)) ggX7_lastNumberAhead_X7_nextOdd
theorem dX7_lastNumberAhead_0 : decode cX7_lastNumberAhead 0 = .ok (.iconst 0, 1) := by decide +kernel
theorem dX7_lastNumberAhead_1 : decode cX7_lastNumberAhead 1 = .ok (.istore_n 2, 1) := by decide +kernel
theorem dX7_lastNumberAhead_2 : decode cX7_lastNumberAhead 2 = .ok (.iconst 0, 1) := by decide +kernel
theorem dX7_lastNumberAhead_3 : decode cX7_lastNumberAhead 3 = .ok (.istore_n 3, 1) := by decide +kernel
theorem dX7_lastNumberAhead_4 : decode cX7_lastNumberAhead 4 = .ok (.iload_n 3, 1) := by decide +kernel
theorem dX7_lastNumberAhead_5 : decode cX7_lastNumberAhead 5 = .ok (.iload_n 1, 1) := by decide +kernel
theorem dX7_lastNumberAhead_6 : decode cX7_lastNumberAhead 6 = .ok (.if_icmp .ge 37, 3) := by decide +kernel
theorem dX7_lastNumberAhead_9 : decode cX7_lastNumberAhead 9 = .ok (.iload_n 3, 1) := by decide +kernel
theorem dX7_lastNumberAhead_10 : decode cX7_lastNumberAhead 10 = .ok (.bipush 6, 2) := by decide +kernel
theorem dX7_lastNumberAhead_12 : decode cX7_lastNumberAhead 12 = .ok (.if_icmp .ge 31, 3) := by decide +kernel
theorem dX7_lastNumberAhead_15 : decode cX7_lastNumberAhead 15 = .ok (.aload_n 0, 1) := by decide +kernel
theorem dX7_lastNumberAhead_16 : decode cX7_lastNumberAhead 16 = .ok (.iload_n 3, 1) := by decide +kernel
theorem dX7_lastNumberAhead_17 : decode cX7_lastNumberAhead 17 = .ok (.invokevirtual 146, 3) := by decide +kernel
theorem dX7_lastNumberAhead_20 : decode cX7_lastNumberAhead 20 = .ok (.istore 4, 2) := by decide +kernel
theorem dX7_lastNumberAhead_22 : decode cX7_lastNumberAhead 22 = .ok (.iload 4, 2) := by decide +kernel
theorem dX7_lastNumberAhead_24 : decode cX7_lastNumberAhead 24 = .ok (.ifCond .le 13, 3) := by decide +kernel
theorem dX7_lastNumberAhead_27 : decode cX7_lastNumberAhead 27 = .ok (.iload_n 2, 1) := by decide +kernel
theorem dX7_lastNumberAhead_28 : decode cX7_lastNumberAhead 28 = .ok (.invokestatic 152, 3) := by decide +kernel
theorem dX7_lastNumberAhead_31 : decode cX7_lastNumberAhead 31 = .ok (.iload 4, 2) := by decide +kernel
theorem dX7_lastNumberAhead_33 : decode cX7_lastNumberAhead 33 = .ok (.iadd, 1) := by decide +kernel
theorem dX7_lastNumberAhead_34 : decode cX7_lastNumberAhead 34 = .ok (.iconst 1, 1) := by decide +kernel
theorem dX7_lastNumberAhead_35 : decode cX7_lastNumberAhead 35 = .ok (.isub, 1) := by decide +kernel
theorem dX7_lastNumberAhead_36 : decode cX7_lastNumberAhead 36 = .ok (.istore_n 2, 1) := by decide +kernel
theorem dX7_lastNumberAhead_37 : decode cX7_lastNumberAhead 37 = .ok (.iinc 3 1, 3) := by decide +kernel
theorem dX7_lastNumberAhead_40 : decode cX7_lastNumberAhead 40 = .ok (.goto (-36), 3) := by decide +kernel
theorem dX7_lastNumberAhead_43 : decode cX7_lastNumberAhead 43 = .ok (.iload_n 2, 1) := by decide +kernel
theorem dX7_lastNumberAhead_44 : decode cX7_lastNumberAhead 44 = .ok (.ireturn, 1) := by decide +kernel
theorem dX7_nextOdd_0 : decode cX7_nextOdd 0 = .ok (.iload_n 0, 1) := by decide +kernel
theorem dX7_nextOdd_1 : decode cX7_nextOdd 1 = .ok (.iconst 1, 1) := by decide +kernel
theorem dX7_nextOdd_2 : decode cX7_nextOdd 2 = .ok (.iadd, 1) := by decide +kernel
theorem dX7_nextOdd_3 : decode cX7_nextOdd 3 = .ok (.iload_n 0, 1) := by decide +kernel
theorem dX7_nextOdd_4 : decode cX7_nextOdd 4 = .ok (.iconst 1, 1) := by decide +kernel
theorem dX7_nextOdd_5 : decode cX7_nextOdd 5 = .ok (.iand, 1) := by decide +kernel
theorem dX7_nextOdd_6 : decode cX7_nextOdd 6 = .ok (.iadd, 1) := by decide +kernel
theorem dX7_nextOdd_7 : decode cX7_nextOdd 7 = .ok (.ireturn, 1) := by decide +kernel
set_option maxRecDepth 20000 in
theorem ggX7_pagesAlike_X1_arrange : GoodIn wsX7_pagesAlike wsX1_arrange := goodIn_r _ [13, 14, 15, 16, 17, 18, 12, 19, 20, 21, 6, 7, 8, 22, 23, 24, 25, 26, 27, 28, 29, 30, 31, 32, 33, 34, 35, 36, 37, 38, 39, 40, 41, 42, 43, 44, 45, 46, 47, 48, 49, 50, 51, 52, 53, 54, 55, 56, 57, 94, 95, 96, 97, 98, 99, 100] (by decide +kernel) (by decide +kernel)
set_option maxRecDepth 20000 in
theorem gX7_pagesAlike_X1_arrange : GoodIn wsX7_pagesAlike (wsV RX7 178 RX1 yX1_arrange wsX1_arrange) := goodIn_app (goodIn_of _ (by decide +kernel)) ggX7_pagesAlike_X1_arrange
set_option maxRecDepth 20000 in
theorem ggX7_pagesAlike_X7_isPageAlike : GoodIn wsX7_pagesAlike wsX7_isPageAlike := goodIn_r _ [62, 1, 4, 63, 64, 65, 12, 66, 14, 45, 67, 68, 69, 25, 70, 71, 72, 23, 24, 26, 27, 28, 29, 30, 31, 32, 73, 74, 75, 76, 77, 78, 79, 80, 81, 82, 83, 84, 85, 86, 87, 88, 89, 90, 91, 92, 93, 94, 95, 96, 97, 98, 99, 100, 101, 102] (by decide +kernel) (by decide +kernel)
set_option maxRecDepth 20000 in
theorem gX7_pagesAlike_X7_isPageAlike : GoodIn wsX7_pagesAlike (wsV RX7 188 RX7 yX7_isPageAlike wsX7_isPageAlike) := goodIn_app (goodIn_of _ (by decide +kernel)) ggX7_pagesAlike_X7_isPageAlike
theorem dX7_pagesAlike_0 : decode cX7_pagesAlike 0 = .ok (.aload_n 0, 1) := by decide +kernel
theorem dX7_pagesAlike_1 : decode cX7_pagesAlike 1 = .ok (.getfield 19, 3) := by decide +kernel
theorem dX7_pagesAlike_4 : decode cX7_pagesAlike 4 = .ok (.aload_n 1, 1) := by decide +kernel
theorem dX7_pagesAlike_5 : decode cX7_pagesAlike 5 = .ok (.aload_n 0, 1) := by decide +kernel
theorem dX7_pagesAlike_6 : decode cX7_pagesAlike 6 = .ok (.getfield 33, 3) := by decide +kernel
theorem dX7_pagesAlike_9 : decode cX7_pagesAlike 9 = .ok (.aload_n 0, 1) := by decide +kernel
theorem dX7_pagesAlike_10 : decode cX7_pagesAlike 10 = .ok (.getfield 37, 3) := by decide +kernel
theorem dX7_pagesAlike_13 : decode cX7_pagesAlike 13 = .ok (.invokevirtual 178, 3) := by decide +kernel
theorem dX7_pagesAlike_16 : decode cX7_pagesAlike 16 = .ok (.aload_n 0, 1) := by decide +kernel
theorem dX7_pagesAlike_17 : decode cX7_pagesAlike 17 = .ok (.getfield 23, 3) := by decide +kernel
theorem dX7_pagesAlike_20 : decode cX7_pagesAlike 20 = .ok (.aload_n 2, 1) := by decide +kernel
theorem dX7_pagesAlike_21 : decode cX7_pagesAlike 21 = .ok (.aload_n 0, 1) := by decide +kernel
theorem dX7_pagesAlike_22 : decode cX7_pagesAlike 22 = .ok (.getfield 33, 3) := by decide +kernel
theorem dX7_pagesAlike_25 : decode cX7_pagesAlike 25 = .ok (.aload_n 0, 1) := by decide +kernel
theorem dX7_pagesAlike_26 : decode cX7_pagesAlike 26 = .ok (.getfield 37, 3) := by decide +kernel
theorem dX7_pagesAlike_29 : decode cX7_pagesAlike 29 = .ok (.invokevirtual 178, 3) := by decide +kernel
theorem dX7_pagesAlike_32 : decode cX7_pagesAlike 32 = .ok (.aload_n 0, 1) := by decide +kernel
theorem dX7_pagesAlike_33 : decode cX7_pagesAlike 33 = .ok (.getfield 19, 3) := by decide +kernel
theorem dX7_pagesAlike_36 : decode cX7_pagesAlike 36 = .ok (.getfield 182, 3) := by decide +kernel
theorem dX7_pagesAlike_39 : decode cX7_pagesAlike 39 = .ok (.aload_n 0, 1) := by decide +kernel
theorem dX7_pagesAlike_40 : decode cX7_pagesAlike 40 = .ok (.getfield 23, 3) := by decide +kernel
theorem dX7_pagesAlike_43 : decode cX7_pagesAlike 43 = .ok (.getfield 182, 3) := by decide +kernel
theorem dX7_pagesAlike_46 : decode cX7_pagesAlike 46 = .ok (.invokestatic 185, 3) := by decide +kernel
theorem dX7_pagesAlike_49 : decode cX7_pagesAlike 49 = .ok (.istore_n 3, 1) := by decide +kernel
theorem dX7_pagesAlike_50 : decode cX7_pagesAlike 50 = .ok (.iconst 0, 1) := by decide +kernel
theorem dX7_pagesAlike_51 : decode cX7_pagesAlike 51 = .ok (.istore 4, 2) := by decide +kernel
theorem dX7_pagesAlike_53 : decode cX7_pagesAlike 53 = .ok (.iload 4, 2) := by decide +kernel
theorem dX7_pagesAlike_55 : decode cX7_pagesAlike 55 = .ok (.iload_n 3, 1) := by decide +kernel
theorem dX7_pagesAlike_56 : decode cX7_pagesAlike 56 = .ok (.if_icmp .ge 20, 3) := by decide +kernel
theorem dX7_pagesAlike_59 : decode cX7_pagesAlike 59 = .ok (.aload_n 0, 1) := by decide +kernel
theorem dX7_pagesAlike_60 : decode cX7_pagesAlike 60 = .ok (.aload_n 1, 1) := by decide +kernel
theorem dX7_pagesAlike_61 : decode cX7_pagesAlike 61 = .ok (.aload_n 2, 1) := by decide +kernel
theorem dX7_pagesAlike_62 : decode cX7_pagesAlike 62 = .ok (.iload 4, 2) := by decide +kernel
theorem dX7_pagesAlike_64 : decode cX7_pagesAlike 64 = .ok (.invokevirtual 188, 3) := by decide +kernel
theorem dX7_pagesAlike_67 : decode cX7_pagesAlike 67 = .ok (.ifCond .eq 9, 3) := by decide +kernel
theorem dX7_pagesAlike_70 : decode cX7_pagesAlike 70 = .ok (.iinc 4 1, 3) := by decide +kernel
theorem dX7_pagesAlike_73 : decode cX7_pagesAlike 73 = .ok (.goto (-20), 3) := by decide +kernel
theorem dX7_pagesAlike_76 : decode cX7_pagesAlike 76 = .ok (.iload 4, 2) := by decide +kernel
theorem dX7_pagesAlike_78 : decode cX7_pagesAlike 78 = .ok (.ireturn, 1) := by decide +kernel
set_option maxRecDepth 20000 in
theorem ggX7_isPageAlike_X1_figure : GoodIn wsX7_isPageAlike wsX1_figure := goodIn_r _ [7, 8, 9, 47, 48, 49, 50] (by decide +kernel) (by decide +kernel)
set_option maxRecDepth 20000 in
theorem gX7_isPageAlike_X1_figure : GoodIn wsX7_isPageAlike (wsV RX7 155 RX1 yX1_figure wsX1_figure) := goodIn_app (goodIn_of _ (by decide +kernel)) ggX7_isPageAlike_X1_figure
set_option maxRecDepth 20000 in
theorem ggX7_isPageAlike_X4_isRowAlike : GoodIn wsX7_isPageAlike wsX4_isRowAlike := goodIn_r _ [14, 15, 16, 17, 18, 13, 19, 20, 21, 22, 23, 24, 25, 26, 27, 28, 29, 30, 31, 32, 33, 34, 35, 36, 37, 38, 39, 40, 51, 52, 53, 54, 55] (by decide +kernel) (by decide +kernel)
set_option maxRecDepth 20000 in
theorem gX7_isPageAlike_X4_isRowAlike : GoodIn wsX7_isPageAlike (wsV RX7 192 RX4 yX4_isRowAlike wsX4_isRowAlike) := goodIn_app (goodIn_of _ (by decide +kernel)) ggX7_isPageAlike_X4_isRowAlike
theorem dX7_isPageAlike_0 : decode cX7_isPageAlike 0 = .ok (.iconst 0, 1) := by decide +kernel
theorem dX7_isPageAlike_1 : decode cX7_isPageAlike 1 = .ok (.istore 4, 2) := by decide +kernel
theorem dX7_isPageAlike_3 : decode cX7_isPageAlike 3 = .ok (.iload 4, 2) := by decide +kernel
theorem dX7_isPageAlike_5 : decode cX7_isPageAlike 5 = .ok (.iconst 4, 1) := by decide +kernel
theorem dX7_isPageAlike_6 : decode cX7_isPageAlike 6 = .ok (.if_icmp .ge 34, 3) := by decide +kernel
theorem dX7_isPageAlike_9 : decode cX7_isPageAlike 9 = .ok (.aload_n 0, 1) := by decide +kernel
theorem dX7_isPageAlike_10 : decode cX7_isPageAlike 10 = .ok (.getfield 19, 3) := by decide +kernel
theorem dX7_isPageAlike_13 : decode cX7_isPageAlike 13 = .ok (.iload_n 3, 1) := by decide +kernel
theorem dX7_isPageAlike_14 : decode cX7_isPageAlike 14 = .ok (.iload 4, 2) := by decide +kernel
theorem dX7_isPageAlike_16 : decode cX7_isPageAlike 16 = .ok (.invokevirtual 155, 3) := by decide +kernel
theorem dX7_isPageAlike_19 : decode cX7_isPageAlike 19 = .ok (.aload_n 0, 1) := by decide +kernel
theorem dX7_isPageAlike_20 : decode cX7_isPageAlike 20 = .ok (.getfield 23, 3) := by decide +kernel
theorem dX7_isPageAlike_23 : decode cX7_isPageAlike 23 = .ok (.iload_n 3, 1) := by decide +kernel
theorem dX7_isPageAlike_24 : decode cX7_isPageAlike 24 = .ok (.iload 4, 2) := by decide +kernel
theorem dX7_isPageAlike_26 : decode cX7_isPageAlike 26 = .ok (.invokevirtual 155, 3) := by decide +kernel
theorem dX7_isPageAlike_29 : decode cX7_isPageAlike 29 = .ok (.if_icmp .eq 5, 3) := by decide +kernel
theorem dX7_isPageAlike_32 : decode cX7_isPageAlike 32 = .ok (.iconst 0, 1) := by decide +kernel
theorem dX7_isPageAlike_33 : decode cX7_isPageAlike 33 = .ok (.ireturn, 1) := by decide +kernel
theorem dX7_isPageAlike_34 : decode cX7_isPageAlike 34 = .ok (.iinc 4 1, 3) := by decide +kernel
theorem dX7_isPageAlike_37 : decode cX7_isPageAlike 37 = .ok (.goto (-34), 3) := by decide +kernel
theorem dX7_isPageAlike_40 : decode cX7_isPageAlike 40 = .ok (.aload_n 0, 1) := by decide +kernel
theorem dX7_isPageAlike_41 : decode cX7_isPageAlike 41 = .ok (.getfield 19, 3) := by decide +kernel
theorem dX7_isPageAlike_44 : decode cX7_isPageAlike 44 = .ok (.iload_n 3, 1) := by decide +kernel
theorem dX7_isPageAlike_45 : decode cX7_isPageAlike 45 = .ok (.iconst 0, 1) := by decide +kernel
theorem dX7_isPageAlike_46 : decode cX7_isPageAlike 46 = .ok (.invokevirtual 155, 3) := by decide +kernel
theorem dX7_isPageAlike_49 : decode cX7_isPageAlike 49 = .ok (.istore 4, 2) := by decide +kernel
theorem dX7_isPageAlike_51 : decode cX7_isPageAlike 51 = .ok (.iload 4, 2) := by decide +kernel
theorem dX7_isPageAlike_53 : decode cX7_isPageAlike 53 = .ok (.aload_n 0, 1) := by decide +kernel
theorem dX7_isPageAlike_54 : decode cX7_isPageAlike 54 = .ok (.getfield 19, 3) := by decide +kernel
theorem dX7_isPageAlike_57 : decode cX7_isPageAlike 57 = .ok (.iload_n 3, 1) := by decide +kernel
theorem dX7_isPageAlike_58 : decode cX7_isPageAlike 58 = .ok (.iconst 1, 1) := by decide +kernel
theorem dX7_isPageAlike_59 : decode cX7_isPageAlike 59 = .ok (.invokevirtual 155, 3) := by decide +kernel
theorem dX7_isPageAlike_62 : decode cX7_isPageAlike 62 = .ok (.iadd, 1) := by decide +kernel
theorem dX7_isPageAlike_63 : decode cX7_isPageAlike 63 = .ok (.istore 5, 2) := by decide +kernel
theorem dX7_isPageAlike_65 : decode cX7_isPageAlike 65 = .ok (.iload 4, 2) := by decide +kernel
theorem dX7_isPageAlike_67 : decode cX7_isPageAlike 67 = .ok (.istore 6, 2) := by decide +kernel
theorem dX7_isPageAlike_69 : decode cX7_isPageAlike 69 = .ok (.iload 6, 2) := by decide +kernel
theorem dX7_isPageAlike_71 : decode cX7_isPageAlike 71 = .ok (.iload 5, 2) := by decide +kernel
theorem dX7_isPageAlike_73 : decode cX7_isPageAlike 73 = .ok (.if_icmp .ge 21, 3) := by decide +kernel
theorem dX7_isPageAlike_76 : decode cX7_isPageAlike 76 = .ok (.aload_n 1, 1) := by decide +kernel
theorem dX7_isPageAlike_77 : decode cX7_isPageAlike 77 = .ok (.aload_n 2, 1) := by decide +kernel
theorem dX7_isPageAlike_78 : decode cX7_isPageAlike 78 = .ok (.iload 6, 2) := by decide +kernel
theorem dX7_isPageAlike_80 : decode cX7_isPageAlike 80 = .ok (.invokevirtual 192, 3) := by decide +kernel
theorem dX7_isPageAlike_83 : decode cX7_isPageAlike 83 = .ok (.ifCond .ne 5, 3) := by decide +kernel
theorem dX7_isPageAlike_86 : decode cX7_isPageAlike 86 = .ok (.iconst 0, 1) := by decide +kernel
theorem dX7_isPageAlike_87 : decode cX7_isPageAlike 87 = .ok (.ireturn, 1) := by decide +kernel
theorem dX7_isPageAlike_88 : decode cX7_isPageAlike 88 = .ok (.iinc 6 1, 3) := by decide +kernel
theorem dX7_isPageAlike_91 : decode cX7_isPageAlike 91 = .ok (.goto (-22), 3) := by decide +kernel
theorem dX7_isPageAlike_94 : decode cX7_isPageAlike 94 = .ok (.iconst 1, 1) := by decide +kernel
theorem dX7_isPageAlike_95 : decode cX7_isPageAlike 95 = .ok (.ireturn, 1) := by decide +kernel
set_option maxRecDepth 20000 in
theorem ggX7_condense_X3_size : GoodIn wsX7_condense wsX3_size := goodIn_r _ [5, 6, 25, 26] (by decide +kernel) (by decide +kernel)
set_option maxRecDepth 20000 in
theorem gX7_condense_X3_size : GoodIn wsX7_condense (wsV RX7 75 RX3 yX3_size wsX3_size) := goodIn_app (goodIn_of _ (by decide +kernel)) ggX7_condense_X3_size
set_option maxRecDepth 20000 in
theorem ggX7_condense_X3_isAlike : GoodIn wsX7_condense wsX3_isAlike := goodIn_r _ [10, 11, 2, 3, 4, 5, 6, 12, 13, 14, 15, 16, 25, 26] (by decide +kernel) (by decide +kernel)
set_option maxRecDepth 20000 in
theorem gX7_condense_X3_isAlike : GoodIn wsX7_condense (wsV RX7 196 RX3 yX3_isAlike wsX3_isAlike) := goodIn_app (goodIn_of _ (by decide +kernel)) ggX7_condense_X3_isAlike
set_option maxRecDepth 20000 in
theorem ggX7_condense_X3_hasRhythmIn : GoodIn wsX7_condense wsX3_hasRhythmIn := goodIn_r _ [20, 11, 2, 3, 4, 5, 6, 12, 13, 14, 15, 16, 21, 22, 23, 24, 25, 26] (by decide +kernel) (by decide +kernel)
set_option maxRecDepth 20000 in
theorem gX7_condense_X3_hasRhythmIn : GoodIn wsX7_condense (wsV RX7 200 RX3 yX3_hasRhythmIn wsX3_hasRhythmIn) := goodIn_app (goodIn_of _ (by decide +kernel)) ggX7_condense_X3_hasRhythmIn
theorem dX7_condense_0 : decode cX7_condense 0 = .ok (.aload_n 0, 1) := by decide +kernel
theorem dX7_condense_1 : decode cX7_condense 1 = .ok (.iload_n 2, 1) := by decide +kernel
theorem dX7_condense_2 : decode cX7_condense 2 = .ok (.invokevirtual 75, 3) := by decide +kernel
theorem dX7_condense_5 : decode cX7_condense 5 = .ok (.ifCond .ne 7, 3) := by decide +kernel
theorem dX7_condense_8 : decode cX7_condense 8 = .ok (.iconst 1, 1) := by decide +kernel
theorem dX7_condense_9 : decode cX7_condense 9 = .ok (.goto 4, 3) := by decide +kernel
theorem dX7_condense_12 : decode cX7_condense 12 = .ok (.iconst 0, 1) := by decide +kernel
theorem dX7_condense_13 : decode cX7_condense 13 = .ok (.istore_n 3, 1) := by decide +kernel
theorem dX7_condense_14 : decode cX7_condense 14 = .ok (.aload_n 1, 1) := by decide +kernel
theorem dX7_condense_15 : decode cX7_condense 15 = .ok (.iload_n 2, 1) := by decide +kernel
theorem dX7_condense_16 : decode cX7_condense 16 = .ok (.invokevirtual 75, 3) := by decide +kernel
theorem dX7_condense_19 : decode cX7_condense 19 = .ok (.ifCond .ne 7, 3) := by decide +kernel
theorem dX7_condense_22 : decode cX7_condense 22 = .ok (.iconst 1, 1) := by decide +kernel
theorem dX7_condense_23 : decode cX7_condense 23 = .ok (.goto 4, 3) := by decide +kernel
theorem dX7_condense_26 : decode cX7_condense 26 = .ok (.iconst 0, 1) := by decide +kernel
theorem dX7_condense_27 : decode cX7_condense 27 = .ok (.istore 4, 2) := by decide +kernel
theorem dX7_condense_29 : decode cX7_condense 29 = .ok (.iload_n 3, 1) := by decide +kernel
theorem dX7_condense_30 : decode cX7_condense 30 = .ok (.ifCond .eq 10, 3) := by decide +kernel
theorem dX7_condense_33 : decode cX7_condense 33 = .ok (.iload 4, 2) := by decide +kernel
theorem dX7_condense_35 : decode cX7_condense 35 = .ok (.ifCond .eq 5, 3) := by decide +kernel
theorem dX7_condense_38 : decode cX7_condense 38 = .ok (.iconst 0, 1) := by decide +kernel
theorem dX7_condense_39 : decode cX7_condense 39 = .ok (.ireturn, 1) := by decide +kernel
theorem dX7_condense_40 : decode cX7_condense 40 = .ok (.iload 4, 2) := by decide +kernel
theorem dX7_condense_42 : decode cX7_condense 42 = .ok (.ifCond .eq 5, 3) := by decide +kernel
theorem dX7_condense_45 : decode cX7_condense 45 = .ok (.iconst 3, 1) := by decide +kernel
theorem dX7_condense_46 : decode cX7_condense 46 = .ok (.ireturn, 1) := by decide +kernel
theorem dX7_condense_47 : decode cX7_condense 47 = .ok (.iload_n 3, 1) := by decide +kernel
theorem dX7_condense_48 : decode cX7_condense 48 = .ok (.ifCond .eq 5, 3) := by decide +kernel
theorem dX7_condense_51 : decode cX7_condense 51 = .ok (.iconst 4, 1) := by decide +kernel
theorem dX7_condense_52 : decode cX7_condense 52 = .ok (.ireturn, 1) := by decide +kernel
theorem dX7_condense_53 : decode cX7_condense 53 = .ok (.aload_n 0, 1) := by decide +kernel
theorem dX7_condense_54 : decode cX7_condense 54 = .ok (.aload_n 1, 1) := by decide +kernel
theorem dX7_condense_55 : decode cX7_condense 55 = .ok (.iload_n 2, 1) := by decide +kernel
theorem dX7_condense_56 : decode cX7_condense 56 = .ok (.invokevirtual 196, 3) := by decide +kernel
theorem dX7_condense_59 : decode cX7_condense 59 = .ok (.ifCond .eq 5, 3) := by decide +kernel
theorem dX7_condense_62 : decode cX7_condense 62 = .ok (.iconst 1, 1) := by decide +kernel
theorem dX7_condense_63 : decode cX7_condense 63 = .ok (.ireturn, 1) := by decide +kernel
theorem dX7_condense_64 : decode cX7_condense 64 = .ok (.aload_n 0, 1) := by decide +kernel
theorem dX7_condense_65 : decode cX7_condense 65 = .ok (.aload_n 1, 1) := by decide +kernel
theorem dX7_condense_66 : decode cX7_condense 66 = .ok (.iload_n 2, 1) := by decide +kernel
theorem dX7_condense_67 : decode cX7_condense 67 = .ok (.invokevirtual 200, 3) := by decide +kernel
theorem dX7_condense_70 : decode cX7_condense 70 = .ok (.ifCond .eq 16, 3) := by decide +kernel
theorem dX7_condense_73 : decode cX7_condense 73 = .ok (.aload_n 1, 1) := by decide +kernel
theorem dX7_condense_74 : decode cX7_condense 74 = .ok (.aload_n 0, 1) := by decide +kernel
theorem dX7_condense_75 : decode cX7_condense 75 = .ok (.iload_n 2, 1) := by decide +kernel
theorem dX7_condense_76 : decode cX7_condense 76 = .ok (.invokevirtual 200, 3) := by decide +kernel
theorem dX7_condense_79 : decode cX7_condense 79 = .ok (.ifCond .eq 7, 3) := by decide +kernel
theorem dX7_condense_82 : decode cX7_condense 82 = .ok (.iconst 2, 1) := by decide +kernel
theorem dX7_condense_83 : decode cX7_condense 83 = .ok (.goto 4, 3) := by decide +kernel
theorem dX7_condense_86 : decode cX7_condense 86 = .ok (.iconst 5, 1) := by decide +kernel
theorem dX7_condense_87 : decode cX7_condense 87 = .ok (.ireturn, 1) := by decide +kernel
theorem kX7_init_10 : Cond.fieldLink RX7 10 (TX7 0).1 (TX7 0).2.1 (TX7 0).2.2.1 ∈ wsX7_init := by decide +kernel
theorem kX7_init_19 : Cond.fieldLink RX7 19 (TX7 1).1 (TX7 1).2.1 (TX7 1).2.2.1 ∈ wsX7_init := by decide +kernel
theorem kX7_init_23 : Cond.fieldLink RX7 23 (TX7 2).1 (TX7 2).2.1 (TX7 2).2.2.1 ∈ wsX7_init := by decide +kernel
theorem kX7_init_29 : Cond.fieldLink RX7 29 (TX7 3).1 (TX7 3).2.1 (TX7 3).2.2.1 ∈ wsX7_init := by decide +kernel
theorem kX7_init_33 : Cond.fieldLink RX7 33 (TX7 4).1 (TX7 4).2.1 (TX7 4).2.2.1 ∈ wsX7_init := by decide +kernel
theorem kX7_init_37 : Cond.fieldLink RX7 37 (TX7 5).1 (TX7 5).2.1 (TX7 5).2.2.1 ∈ wsX7_init := by decide +kernel
theorem iX7_init_X1 : ∀ w ∈ u_ws RX1 TX1 4, w ∈ wsX7_init := by decide +kernel
theorem iX7_init_X4 : ∀ w ∈ u_ws RX4 TX4 3, w ∈ wsX7_init := by decide +kernel
theorem iX7_init_X5 : ∀ w ∈ u_ws RX5 TX5 5, w ∈ wsX7_init := by decide +kernel
theorem iX7_init_X7 : ∀ w ∈ u_ws RX7 TX7 6, w ∈ wsX7_init := by decide +kernel
theorem kcX7_init_16 : Cond.classLink RX7 16 RX1 ∈ wsX7_init := by decide +kernel
theorem kcX7_init_26 : Cond.classLink RX7 26 RX4 ∈ wsX7_init := by decide +kernel
theorem kcX7_init_7 : Cond.classLink RX7 7 RX5 ∈ wsX7_init := by decide +kernel
theorem kqX7_init : Cond.code objectInit ⟨#[0xb1]⟩ 1 none ∈ wsX7_init := by decide +kernel
theorem kiX7_init_X1 : Cond.initialized RX1 ∈ wsX7_init := by decide +kernel
theorem kiX7_init_X4 : Cond.initialized RX4 ∈ wsX7_init := by decide +kernel
theorem kiX7_init_X5 : Cond.initialized RX5 ∈ wsX7_init := by decide +kernel
theorem ksX7_init_X1_init : Cond.initialized yX1_init.cls ∈ wsX7_init := by decide +kernel
theorem ksX7_init_X4_init : Cond.initialized yX4_init.cls ∈ wsX7_init := by decide +kernel
theorem ksX7_init_X5_init : Cond.initialized yX5_init.cls ∈ wsX7_init := by decide +kernel
theorem kpX7_init : Cond.instanceMethod objectInit ∈ wsX7_init := by decide +kernel
theorem knX7_init_X1_init : Cond.instanceMethod yX1_init ∈ wsX7_init := by decide +kernel
theorem knX7_init_X4_init : Cond.instanceMethod yX4_init ∈ wsX7_init := by decide +kernel
theorem knX7_init_X5_init : Cond.instanceMethod yX5_init ∈ wsX7_init := by decide +kernel
theorem ktX7_init_X1 : Cond.instantiable RX1 4 ∈ wsX7_init := by decide +kernel
theorem ktX7_init_X4 : Cond.instantiable RX4 3 ∈ wsX7_init := by decide +kernel
theorem ktX7_init_X5 : Cond.instantiable RX5 5 ∈ wsX7_init := by decide +kernel
theorem koX7_init : Cond.methodLink RX7 1 objectInit ∈ wsX7_init := by decide +kernel
theorem klX7_init_X1_init : Cond.methodLinkNest RX7 18 yX1_init RX7 ∈ q_nest := by decide +kernel
theorem klX7_init_X4_init : Cond.methodLinkNest RX7 28 yX4_init RX7 ∈ q_nest := by decide +kernel
theorem klX7_init_X5_init : Cond.methodLinkNest RX7 9 yX5_init RX7 ∈ q_nest := by decide +kernel
set_option maxHeartbeats 4000000 in
set_option maxRecDepth 100000 in
theorem RX7_init (l : Launch) (D : va_G) (g : q_A) (S : q_S) (a0 : Nat) (Q : q_S → Prop) (h : wX7_init a0 Q S) : q_Mv l yX7_init wsX7_init rmX7_init D g [.ref a0] S Q := by
  refine q_Mv.of (cc := cX7_init) (nL := 1) (by decide +kernel) rfl (Nat.le_of_ble_eq_true rfl) rfl ?_
  intro p e s m args below meth c ls A C hr hnm hp hl
  have C : q_X p s m args meth c cX7_init 1 RX7 wsX7_init D g A := C
  have hx := C.1
  have hb := C.2.1
  have hl : q_l ls 1 [(0, .ref a0)] := hl
  unfold wX7_init at h
  refine lv_aload_n hx hb dX7_init_0 rfl (q_at hl 0 rfl) ?_
  refine q_objI C koX7_init kpX7_init kqX7_init hl.1.1 dX7_init_1 (Nat.le_of_ble_eq_true rfl) (Nat.le_of_ble_eq_true rfl) ?_
  refine lv_aload_n hx hb dX7_init_4 rfl (q_at hl 0 rfl) ?_
  refine q_rNO (N := 5) C hp h tyX5 tyX5_ok rfl iX7_init_X5 kcX7_init_7 ktX7_init_X5 kiX7_init_X5 (fun j hj => by match j, hj with | 0, _ => rfl | 1, _ => rfl | 2, _ => rfl | 3, _ => rfl | 4, _ => rfl | j + 5, hj => exact absurd hj (by omega)) (Nat.le_of_ble_eq_true rfl) (Nat.le_of_ble_eq_true rfl) dX7_init_5 (fun q_1 S_2 H h hp => ?_)
  refine W.widen (k := 1) (n := 5) (Nat.le_of_ble_eq_true rfl) (Nat.le_of_ble_eq_true rfl) ?_
  refine lv_dup hx hb dX7_init_8 rfl ?_
  refine q_finV C hp (q_runIN (As := []) (rest := [.ref q_1, .ref a0]) C hp (RX5_init l D g _ q_1 _ h _) ggX7_init_X5_init rfl klX7_init_X5_init ksX7_init_X5_init knX7_init_X5_init (by decide +kernel) ⟨(Nat.le_of_ble_eq_true rfl), (Nat.le_of_ble_eq_true rfl)⟩ rfl rfl hl.1.1 rfl (Nat.le_of_ble_eq_true rfl) dX7_init_9 ⟨(Nat.le_of_ble_eq_true rfl), (Nat.le_of_ble_eq_true rfl)⟩) (fun S_3 H locs h hp => ?_)
  refine W.widen (k := 4) (n := 212) (Nat.le_of_ble_eq_true rfl) (Nat.le_of_ble_eq_true rfl) ?_
  refine q_fP C hp h hnm tyX7 tyX7_ok nmX7 rfl iX7_init_X7 (by decide) kX7_init_10 rfl rfl rfl rfl rfl dX7_init_12 (fun S_4 H locs h hp => ?_)
  refine lv_aload_n hx hb dX7_init_15 rfl (q_at hl 0 rfl) ?_
  refine q_rNO (N := 4) C hp h tyX1 tyX1_ok rfl iX7_init_X1 kcX7_init_16 ktX7_init_X1 kiX7_init_X1 (fun j hj => by match j, hj with | 0, _ => rfl | 1, _ => rfl | 2, _ => rfl | 3, _ => rfl | j + 4, hj => exact absurd hj (by omega)) (Nat.le_of_ble_eq_true rfl) (Nat.le_of_ble_eq_true rfl) dX7_init_16 (fun q_5 S_6 H h hp => ?_)
  refine W.widen (k := 5) (n := 216) (Nat.le_of_ble_eq_true rfl) (Nat.le_of_ble_eq_true rfl) ?_
  refine lv_dup hx hb dX7_init_19 rfl ?_
  refine q_finV C hp (q_runIN (As := []) (rest := [.ref q_5, .ref a0]) C hp (RX1_init l D g _ q_5 _ h _) ggX7_init_X1_init rfl klX7_init_X1_init ksX7_init_X1_init knX7_init_X1_init (by decide +kernel) ⟨(Nat.le_of_ble_eq_true rfl), (Nat.le_of_ble_eq_true rfl)⟩ rfl rfl hl.1.1 rfl (Nat.le_of_ble_eq_true rfl) dX7_init_20 ⟨(Nat.le_of_ble_eq_true rfl), (Nat.le_of_ble_eq_true rfl)⟩) (fun S_7 H locs h hp => ?_)
  refine W.widen (k := 7) (n := 417) (Nat.le_of_ble_eq_true rfl) (Nat.le_of_ble_eq_true rfl) ?_
  refine q_fP C hp h hnm tyX7 tyX7_ok nmX7 rfl iX7_init_X7 (by decide) kX7_init_19 rfl rfl rfl rfl rfl dX7_init_23 (fun S_8 H locs h hp => ?_)
  refine lv_aload_n hx hb dX7_init_26 rfl (q_at hl 0 rfl) ?_
  refine q_rNO (N := 4) C hp h tyX1 tyX1_ok rfl iX7_init_X1 kcX7_init_16 ktX7_init_X1 kiX7_init_X1 (fun j hj => by match j, hj with | 0, _ => rfl | 1, _ => rfl | 2, _ => rfl | 3, _ => rfl | j + 4, hj => exact absurd hj (by omega)) (Nat.le_of_ble_eq_true rfl) (Nat.le_of_ble_eq_true rfl) dX7_init_27 (fun q_9 S_10 H h hp => ?_)
  refine W.widen (k := 8) (n := 421) (Nat.le_of_ble_eq_true rfl) (Nat.le_of_ble_eq_true rfl) ?_
  refine lv_dup hx hb dX7_init_30 rfl ?_
  refine q_finV C hp (q_runIN (As := []) (rest := [.ref q_9, .ref a0]) C hp (RX1_init l D g _ q_9 _ h _) ggX7_init_X1_init rfl klX7_init_X1_init ksX7_init_X1_init knX7_init_X1_init (by decide +kernel) ⟨(Nat.le_of_ble_eq_true rfl), (Nat.le_of_ble_eq_true rfl)⟩ rfl rfl hl.1.1 rfl (Nat.le_of_ble_eq_true rfl) dX7_init_31 ⟨(Nat.le_of_ble_eq_true rfl), (Nat.le_of_ble_eq_true rfl)⟩) (fun S_11 H locs h hp => ?_)
  refine W.widen (k := 10) (n := 622) (Nat.le_of_ble_eq_true rfl) (Nat.le_of_ble_eq_true rfl) ?_
  refine q_fP C hp h hnm tyX7 tyX7_ok nmX7 rfl iX7_init_X7 (by decide) kX7_init_23 rfl rfl rfl rfl rfl dX7_init_34 (fun S_12 H locs h hp => ?_)
  refine lv_aload_n hx hb dX7_init_37 rfl (q_at hl 0 rfl) ?_
  refine q_rNO (N := 3) C hp h tyX4 tyX4_ok rfl iX7_init_X4 kcX7_init_26 ktX7_init_X4 kiX7_init_X4 (fun j hj => by match j, hj with | 0, _ => rfl | 1, _ => rfl | 2, _ => rfl | j + 3, hj => exact absurd hj (by omega)) (Nat.le_of_ble_eq_true rfl) (Nat.le_of_ble_eq_true rfl) dX7_init_38 (fun q_13 S_14 H h hp => ?_)
  refine W.widen (k := 11) (n := 625) (Nat.le_of_ble_eq_true rfl) (Nat.le_of_ble_eq_true rfl) ?_
  refine lv_dup hx hb dX7_init_41 rfl ?_
  refine q_finV C hp (q_runIN (As := []) (rest := [.ref q_13, .ref a0]) C hp (RX4_init l D g _ q_13 _ h _) ggX7_init_X4_init rfl klX7_init_X4_init ksX7_init_X4_init knX7_init_X4_init (by decide +kernel) ⟨(Nat.le_of_ble_eq_true rfl), (Nat.le_of_ble_eq_true rfl)⟩ rfl rfl hl.1.1 rfl (Nat.le_of_ble_eq_true rfl) dX7_init_42 ⟨(Nat.le_of_ble_eq_true rfl), (Nat.le_of_ble_eq_true rfl)⟩) (fun S_15 H locs h hp => ?_)
  refine W.widen (k := 15) (n := 2227) (Nat.le_of_ble_eq_true rfl) (Nat.le_of_ble_eq_true rfl) ?_
  refine q_rP C hp h tyX7 tyX7_ok nmX7 rfl iX7_init_X7 (by decide) kX7_init_29 rfl rfl rfl rfl dX7_init_45 (fun S_16 H locs h hp => ?_)
  refine lv_aload_n hx hb dX7_init_48 rfl (q_at hl 0 rfl) ?_
  refine lv_bipush (v := 24) hx hb dX7_init_49 (by decide) ?_
  refine q_rP C hp h tyX7 tyX7_ok nmX7 rfl iX7_init_X7 (by decide) kX7_init_33 rfl rfl rfl rfl dX7_init_51 (fun S_17 H locs h hp => ?_)
  refine lv_aload_n hx hb dX7_init_54 rfl (q_at hl 0 rfl) ?_
  refine lv_iconst (v := 4) hx hb dX7_init_55 (by decide) ?_
  refine q_rP C hp h tyX7 tyX7_ok nmX7 rfl iX7_init_X7 (by decide) kX7_init_37 rfl rfl rfl rfl dX7_init_56 (fun S_18 H locs h hp => ?_)
  refine W.widen (k := rmX7_init.cells) (n := rmX7_init.slots) (Nat.le_of_ble_eq_true rfl) (Nat.le_of_ble_eq_true rfl) ?_
  exact q_vret C hp hr h dX7_init_59
theorem kX7_voice_10 : Cond.fieldLink RX7 10 (TX7 0).1 (TX7 0).2.1 (TX7 0).2.2.1 ∈ wsX7_voice := by decide +kernel
theorem iX7_voice_X7 : ∀ w ∈ u_ws RX7 TX7 6, w ∈ wsX7_voice := by decide +kernel
set_option maxHeartbeats 4000000 in
set_option maxRecDepth 100000 in
theorem RX7_voice (l : Launch) (D : va_G) (g : q_A) (S : q_S) (a0 : Nat) (Q : Int32 → q_S → Prop) (h : wX7_voice a0 Q S) : q_Mi l yX7_voice wsX7_voice rmX7_voice D g [.ref a0] S Q := by
  refine q_Mi.of (cc := cX7_voice) (nL := 1) (rt := .int) (by decide +kernel) rfl (Nat.le_of_ble_eq_true rfl) rfl ?_
  intro p e s m args below meth c ls A C hr hnm hp hl
  have C : q_X p s m args meth c cX7_voice 1 RX7 wsX7_voice D g A := C
  have hx := C.1
  have hb := C.2.1
  have hl : q_l ls 1 [(0, .ref a0)] := hl
  unfold wX7_voice at h
  replace h := h.2
  refine lv_aload_n hx hb dX7_voice_0 rfl (q_at hl 0 rfl) ?_
  refine q_rGR C hp h rfl iX7_voice_X7 (by decide) kX7_voice_10 dX7_voice_1 (fun r_1 h => ?_)
  refine q_finI C hp (q_runV (As := []) (rest := []) C hp (RX5_addVoice l D g _ r_1 _ h _) (cwV 0 C.2.2.2.2.1 gX7_voice_X5_addVoice rfl rfl rfl (by decide +kernel) ⟨(Nat.le_of_ble_eq_true rfl), (Nat.le_of_ble_eq_true rfl)⟩) h.1 rfl rfl hl.1.1 rfl (Nat.le_of_ble_eq_true rfl) dX7_voice_4 ⟨(Nat.le_of_ble_eq_true rfl), (Nat.le_of_ble_eq_true rfl)⟩) (fun v_3 S_2 H locs h hp => ?_)
  refine W.widen (k := 4) (n := 1327) (Nat.le_of_ble_eq_true rfl) (Nat.le_of_ble_eq_true rfl) ?_
  refine W.widen (k := rmX7_voice.cells) (n := rmX7_voice.slots) (Nat.le_of_ble_eq_true rfl) (Nat.le_of_ble_eq_true rfl) ?_
  exact q_iret C hp hr h dX7_voice_7

set_option maxHeartbeats 4000000 in
set_option maxRecDepth 100000 in
theorem RX7_isWithin (l : Launch) (D : va_G) (g : q_A) (S : q_S) (x0 : Int32) (x1 : Int32) (x2 : Int32) (Q : Int32 → q_S → Prop) (h : wX7_isWithin x0 x1 x2 Q S) : q_Mi l yX7_isWithin wsX7_isWithin rmX7_isWithin D g [.int x0, .int x1, .int x2] S Q := by
  refine q_Mi.of (cc := cX7_isWithin) (nL := 3) (rt := .boolean) (by decide +kernel) rfl (Nat.le_of_ble_eq_true rfl) rfl ?_
  intro p e s m args below meth c ls A C hr hnm hp hl
  have C : q_X p s m args meth c cX7_isWithin 3 RX7 wsX7_isWithin D g A := C
  have hx := C.1
  have hb := C.2.1
  have hl : q_l ls 3 [(0, .int x0), (1, .int x1), (2, .int x2)] := hl
  unfold wX7_isWithin at h
  refine lv_iload_n hx hb dX7_isWithin_0 rfl (q_at hl 0 rfl) ?_
  refine lv_iload_n hx hb dX7_isWithin_1 rfl (q_at hl 1 rfl) ?_
  refine lv_icmp_lt (tgt := 14) hx hb dX7_isWithin_2 (by decide) (fun c_1 => ?_) (fun c_1 => ?_)
  · replace h := h.1 c_1
    refine lv_iconst (v := 0) hx hb dX7_isWithin_14 (by decide) ?_
    exact q_zret C hp hr h dX7_isWithin_15
  · replace h := h.2 c_1
    refine lv_iload_n hx hb dX7_isWithin_5 rfl (q_at hl 0 rfl) ?_
    refine lv_iload_n hx hb dX7_isWithin_6 rfl (q_at hl 2 rfl) ?_
    refine lv_icmp_gt (tgt := 14) hx hb dX7_isWithin_7 (by decide) (fun c_2 => ?_) (fun c_2 => ?_)
    · replace h := h.1 c_2
      refine lv_iconst (v := 0) hx hb dX7_isWithin_14 (by decide) ?_
      exact q_zret C hp hr h dX7_isWithin_15
    · replace h := h.2 c_2
      refine lv_iconst (v := 1) hx hb dX7_isWithin_10 (by decide) ?_
      refine lv_goto (tgt := 15) hx hb dX7_isWithin_11 (by decide) ?_
      exact q_zret C hp hr h dX7_isWithin_15
theorem kX7_bars_10 : Cond.fieldLink RX7 10 (TX7 0).1 (TX7 0).2.1 (TX7 0).2.2.1 ∈ wsX7_bars := by decide +kernel
theorem iX7_bars_X7 : ∀ w ∈ u_ws RX7 TX7 6, w ∈ wsX7_bars := by decide +kernel
set_option maxHeartbeats 4000000 in
set_option maxRecDepth 100000 in
theorem RX7_bars (l : Launch) (D : va_G) (g : q_A) (S : q_S) (a0 : Nat) (x1 : Int32) (Q : Int32 → q_S → Prop) (h : wX7_bars a0 x1 Q S) : q_Mi l yX7_bars wsX7_bars rmX7_bars D g [.ref a0, .int x1] S Q := by
  refine q_Mi.of (cc := cX7_bars) (nL := 2) (rt := .int) (by decide +kernel) rfl (Nat.le_of_ble_eq_true rfl) rfl ?_
  intro p e s m args below meth c ls A C hr hnm hp hl
  have C : q_X p s m args meth c cX7_bars 2 RX7 wsX7_bars D g A := C
  have hx := C.1
  have hb := C.2.1
  have hl : q_l ls 2 [(0, .ref a0), (1, .int x1)] := hl
  unfold wX7_bars at h
  replace h := h.2
  refine lv_iload_n hx hb dX7_bars_0 rfl (q_at hl 1 rfl) ?_
  refine lv_iconst (v := 0) hx hb dX7_bars_1 (by decide) ?_
  refine lv_bipush (v := 40) hx hb dX7_bars_2 (by decide) ?_
  refine q_finI0 C hp (q_runS (As := [.int x1, .int (0 : Int32), .int (40 : Int32)]) (rest := []) C hp (RX7_isWithin l D g _ x1 (0 : Int32) (40 : Int32) _ h _) (va_cwS 3 C.2.2.2.2.1 gX7_bars_X7_isWithin rfl rfl rfl (by decide +kernel) ⟨(Nat.le_of_ble_eq_true rfl), (Nat.le_of_ble_eq_true rfl)⟩) rfl hl.1.1 rfl (Nat.le_of_ble_eq_true rfl) dX7_bars_4 ⟨(Nat.le_of_ble_eq_true rfl), (Nat.le_of_ble_eq_true rfl)⟩) rfl rfl (fun v_2 S_1 H locs h hp => ?_)
  refine lv_if_ne (tgt := 13) hx hb dX7_bars_7 (by decide) (fun c_3 => ?_) (fun c_3 => ?_)
  · replace h := h.1 c_3
    refine lv_aload_n hx hb dX7_bars_13 rfl (q_at hl 0 rfl) ?_
    refine q_rGR C hp h rfl iX7_bars_X7 (by decide) kX7_bars_10 dX7_bars_14 (fun r_4 h => ?_)
    refine lv_iload_n hx hb dX7_bars_17 rfl (q_at hl 1 rfl) ?_
    refine q_finI0 C hp (q_runV (As := [.int x1]) (rest := []) C hp (RX5_resize l D g _ r_4 x1 _ h _) (cwV 1 C.2.2.2.2.1 gX7_bars_X5_resize rfl rfl rfl (by decide +kernel) ⟨(Nat.le_of_ble_eq_true rfl), (Nat.le_of_ble_eq_true rfl)⟩) h.1 rfl rfl hl.1.1 rfl (Nat.le_of_ble_eq_true rfl) dX7_bars_18 ⟨(Nat.le_of_ble_eq_true rfl), (Nat.le_of_ble_eq_true rfl)⟩) rfl rfl (fun v_6 S_5 H locs h hp => ?_)
    exact q_iret C hp hr h dX7_bars_21
  · replace h := h.2 c_3
    refine lv_bipush (v := (-102)) hx hb dX7_bars_10 (by decide) ?_
    exact q_iret C hp hr h dX7_bars_12

set_option maxHeartbeats 4000000 in
set_option maxRecDepth 100000 in
theorem RX7_isNote (l : Launch) (D : va_G) (g : q_A) (S : q_S) (x0 : Int32) (x1 : Int32) (x2 : Int32) (x3 : Int32) (Q : Int32 → q_S → Prop) (h : wX7_isNote x0 x1 x2 x3 Q S) : q_Mi l yX7_isNote wsX7_isNote rmX7_isNote D g [.int x0, .int x1, .int x2, .int x3] S Q := by
  refine q_Mi.of (cc := cX7_isNote) (nL := 4) (rt := .boolean) (by decide +kernel) rfl (Nat.le_of_ble_eq_true rfl) rfl ?_
  intro p e s m args below meth c ls A C hr hnm hp hl
  have C : q_X p s m args meth c cX7_isNote 4 RX7 wsX7_isNote D g A := C
  have hx := C.1
  have hb := C.2.1
  have hl : q_l ls 4 [(0, .int x0), (1, .int x1), (2, .int x2), (3, .int x3)] := hl
  unfold wX7_isNote at h
  refine lv_iload_n hx hb dX7_isNote_0 rfl (q_at hl 0 rfl) ?_
  refine lv_iconst (v := 0) hx hb dX7_isNote_1 (by decide) ?_
  refine lv_bipush (v := 47) hx hb dX7_isNote_2 (by decide) ?_
  refine q_finI0 C hp (q_runS (As := [.int x0, .int (0 : Int32), .int (47 : Int32)]) (rest := []) C hp (RX7_isWithin l D g _ x0 (0 : Int32) (47 : Int32) _ h _) (va_cwS 3 C.2.2.2.2.1 gX7_isNote_X7_isWithin rfl rfl rfl (by decide +kernel) ⟨(Nat.le_of_ble_eq_true rfl), (Nat.le_of_ble_eq_true rfl)⟩) rfl hl.1.1 rfl (Nat.le_of_ble_eq_true rfl) dX7_isNote_4 ⟨(Nat.le_of_ble_eq_true rfl), (Nat.le_of_ble_eq_true rfl)⟩) rfl rfl (fun v_2 S_1 H locs h hp => ?_)
  refine lv_if_eq (tgt := 63) hx hb dX7_isNote_7 (by decide) (fun c_3 => ?_) (fun c_3 => ?_)
  · replace h := h.1 c_3
    refine lv_iconst (v := 0) hx hb dX7_isNote_63 (by decide) ?_
    exact q_zret C hp hr h dX7_isNote_64
  · replace h := h.2 c_3
    refine lv_iload_n hx hb dX7_isNote_10 rfl (q_at hl 1 rfl) ?_
    refine lv_iconst (v := 1) hx hb dX7_isNote_11 (by decide) ?_
    refine lv_bipush (v := 48) hx hb dX7_isNote_12 (by decide) ?_
    refine lv_iload_n hx hb dX7_isNote_14 rfl (q_at hl 0 rfl) ?_
    refine lv_isub hx hb dX7_isNote_15 ?_
    refine q_finI0 C hp (q_runS (As := [.int x1, .int (1 : Int32), .int ((48 : Int32) - x0)]) (rest := []) C hp (RX7_isWithin l D g _ x1 (1 : Int32) ((48 : Int32) - x0) _ h _) (va_cwS 3 C.2.2.2.2.1 gX7_isNote_X7_isWithin rfl rfl rfl (by decide +kernel) ⟨(Nat.le_of_ble_eq_true rfl), (Nat.le_of_ble_eq_true rfl)⟩) rfl hl.1.1 rfl (Nat.le_of_ble_eq_true rfl) dX7_isNote_16 ⟨(Nat.le_of_ble_eq_true rfl), (Nat.le_of_ble_eq_true rfl)⟩) rfl rfl (fun v_5 S_4 H locs h hp => ?_)
    refine lv_if_eq (tgt := 63) hx hb dX7_isNote_19 (by decide) (fun c_6 => ?_) (fun c_6 => ?_)
    · replace h := h.1 c_6
      refine lv_iconst (v := 0) hx hb dX7_isNote_63 (by decide) ?_
      exact q_zret C hp hr h dX7_isNote_64
    · replace h := h.2 c_6
      refine lv_iload_n hx hb dX7_isNote_22 rfl (q_at hl 2 rfl) ?_
      refine lv_iconst (v := 0) hx hb dX7_isNote_23 (by decide) ?_
      refine lv_bipush (v := 127) hx hb dX7_isNote_24 (by decide) ?_
      refine q_finI0 C hp (q_runS (As := [.int x2, .int (0 : Int32), .int (127 : Int32)]) (rest := []) C hp (RX7_isWithin l D g _ x2 (0 : Int32) (127 : Int32) _ h _) (va_cwS 3 C.2.2.2.2.1 gX7_isNote_X7_isWithin rfl rfl rfl (by decide +kernel) ⟨(Nat.le_of_ble_eq_true rfl), (Nat.le_of_ble_eq_true rfl)⟩) rfl hl.1.1 rfl (Nat.le_of_ble_eq_true rfl) dX7_isNote_26 ⟨(Nat.le_of_ble_eq_true rfl), (Nat.le_of_ble_eq_true rfl)⟩) rfl rfl (fun v_8 S_7 H locs h hp => ?_)
      refine lv_if_eq (tgt := 63) hx hb dX7_isNote_29 (by decide) (fun c_9 => ?_) (fun c_9 => ?_)
      · replace h := h.1 c_9
        refine lv_iconst (v := 0) hx hb dX7_isNote_63 (by decide) ?_
        exact q_zret C hp hr h dX7_isNote_64
      · replace h := h.2 c_9
        refine lv_iload_n hx hb dX7_isNote_32 rfl (q_at hl 3 rfl) ?_
        refine lv_bipush (v := (-15)) hx hb dX7_isNote_33 (by decide) ?_
        refine lv_bipush (v := 19) hx hb dX7_isNote_35 (by decide) ?_
        refine q_finI0 C hp (q_runS (As := [.int x3, .int (-15 : Int32), .int (19 : Int32)]) (rest := []) C hp (RX7_isWithin l D g _ x3 (-15 : Int32) (19 : Int32) _ h _) (va_cwS 3 C.2.2.2.2.1 gX7_isNote_X7_isWithin rfl rfl rfl (by decide +kernel) ⟨(Nat.le_of_ble_eq_true rfl), (Nat.le_of_ble_eq_true rfl)⟩) rfl hl.1.1 rfl (Nat.le_of_ble_eq_true rfl) dX7_isNote_37 ⟨(Nat.le_of_ble_eq_true rfl), (Nat.le_of_ble_eq_true rfl)⟩) rfl rfl (fun v_11 S_10 H locs h hp => ?_)
        refine lv_if_eq (tgt := 63) hx hb dX7_isNote_40 (by decide) (fun c_12 => ?_) (fun c_12 => ?_)
        · replace h := h.1 c_12
          refine lv_iconst (v := 0) hx hb dX7_isNote_63 (by decide) ?_
          exact q_zret C hp hr h dX7_isNote_64
        · replace h := h.2 c_12
          refine lv_bipush (v := 7) hx hb dX7_isNote_43 (by decide) ?_
          refine lv_iload_n hx hb dX7_isNote_45 rfl (q_at hl 3 rfl) ?_
          refine lv_imul hx hb dX7_isNote_46 ?_
          refine lv_bipush (v := 12) hx hb dX7_isNote_47 (by decide) ?_
          refine q_finI0 C hp (q_runS (As := [.int ((7 : Int32) * x3), .int (12 : Int32)]) (rest := []) C hp (RJ9_floorMod_7cf53 l D g _ ((7 : Int32) * x3) (12 : Int32) _ h _) (va_cwS 2 C.2.2.2.2.1 gX7_isNote_J9_floorMod_7cf53 rfl rfl rfl (by decide +kernel) ⟨(Nat.le_of_ble_eq_true rfl), (Nat.le_of_ble_eq_true rfl)⟩) rfl hl.1.1 rfl (Nat.le_of_ble_eq_true rfl) dX7_isNote_49 ⟨(Nat.le_of_ble_eq_true rfl), (Nat.le_of_ble_eq_true rfl)⟩) rfl rfl (fun v_14 S_13 H locs h hp => ?_)
          refine lv_iload_n hx hb dX7_isNote_52 rfl (q_at hl 2 rfl) ?_
          refine lv_bipush (v := 12) hx hb dX7_isNote_53 (by decide) ?_
          refine lv_irem hx hb dX7_isNote_55 (by decide) ?_
          refine lv_icmp_ne (tgt := 63) hx hb dX7_isNote_56 (by decide) (fun c_15 => ?_) (fun c_15 => ?_)
          · replace h := h.1 c_15
            refine lv_iconst (v := 0) hx hb dX7_isNote_63 (by decide) ?_
            exact q_zret C hp hr h dX7_isNote_64
          · replace h := h.2 c_15
            refine lv_iconst (v := 1) hx hb dX7_isNote_59 (by decide) ?_
            refine lv_goto (tgt := 64) hx hb dX7_isNote_60 (by decide) ?_
            exact q_zret C hp hr h dX7_isNote_64
theorem kX7_note_10 : Cond.fieldLink RX7 10 (TX7 0).1 (TX7 0).2.1 (TX7 0).2.2.1 ∈ wsX7_note := by decide +kernel
theorem kX7_note_64 : Cond.fieldLinkNest RX7 64 (TX6 1).1 (TX6 1).2.1 (TX6 1).2.2.1 RX7 ∈ q_nest := by decide +kernel
theorem iX7_note_X6 : ∀ w ∈ u_ws RX6 TX6 5, w ∈ wsX7_note := by decide +kernel
theorem iX7_note_X7 : ∀ w ∈ u_ws RX7 TX7 6, w ∈ wsX7_note := by decide +kernel
set_option maxHeartbeats 4000000 in
set_option maxRecDepth 100000 in
theorem RX7_note (l : Launch) (D : va_G) (g : q_A) (S : q_S) (a0 : Nat) (x1 : Int32) (x2 : Int32) (x3 : Int32) (x4 : Int32) (x5 : Int32) (x6 : Int32) (Q : Int32 → q_S → Prop) (h : wX7_note a0 x1 x2 x3 x4 x5 x6 Q S) : q_Mi l yX7_note wsX7_note rmX7_note D g [.ref a0, .int x1, .int x2, .int x3, .int x4, .int x5, .int x6] S Q := by
  refine q_Mi.of (cc := cX7_note) (nL := 8) (rt := .int) (by decide +kernel) rfl (Nat.le_of_ble_eq_true rfl) rfl ?_
  intro p e s m args below meth c ls A C hr hnm hp hl
  have C : q_X p s m args meth c cX7_note 8 RX7 wsX7_note D g A := C
  have hx := C.1
  have hb := C.2.1
  have hl : q_l ls 8 [(0, .ref a0), (1, .int x1), (2, .int x2), (3, .int x3), (4, .int x4), (5, .int x5), (6, .int x6)] := hl
  unfold wX7_note at h
  replace h := h.2
  refine lv_aload_n hx hb dX7_note_0 rfl (q_at hl 0 rfl) ?_
  refine q_rGR C hp h rfl iX7_note_X7 (by decide) kX7_note_10 dX7_note_1 (fun r_1 h => ?_)
  refine lv_iload_n hx hb dX7_note_4 rfl (q_at hl 1 rfl) ?_
  refine q_finQ0 C hp (q_runV (As := [.int x1]) (rest := []) C hp (RX5_voiceAt l D g _ r_1 x1 _ h _) (cwV 1 C.2.2.2.2.1 gX7_note_X5_voiceAt rfl rfl rfl (by decide +kernel) ⟨(Nat.le_of_ble_eq_true rfl), (Nat.le_of_ble_eq_true rfl)⟩) h.1 rfl rfl hl.1.1 rfl (Nat.le_of_ble_eq_true rfl) dX7_note_5 ⟨(Nat.le_of_ble_eq_true rfl), (Nat.le_of_ble_eq_true rfl)⟩) rfl rfl (fun o_3 S_2 H locs h hp => ?_)
  refine q_ast (o := o_3) (lv' := [(7, va_rf o_3), (0, .ref a0), (1, .int x1), (2, .int x2), (3, .int x3), (4, .int x4), (5, .int x5), (6, .int x6)]) hx hb dX7_note_8 hl (by decide) rfl (fun ls hl => ?_)
  refine q_aload (o := o_3) hx hb dX7_note_10 (q_at hl 0 rfl) ?_
  refine q_ifnull (o := o_3) (tgt := 26) hx hb dX7_note_12 (by decide) (fun c_5 => ?_) (fun a_4 c_5 => ?_)
  · have hc_5 := h.1 c_5
    have lc_5 := hl
    have pc_5 := hp
    subst c_5
    have h := hc_5
    have hl := lc_5
    have hp := pc_5
    refine lv_bipush (v := (-101)) hx hb dX7_note_26 (by decide) ?_
    exact q_iret C hp hr h dX7_note_28
  · have hc_5 := h.2 a_4 c_5
    have lc_5 := hl
    have pc_5 := hp
    subst c_5
    have h := hc_5
    have hl := lc_5
    have hp := pc_5
    refine lv_aload_n hx hb dX7_note_15 rfl (q_at hl 1 rfl) ?_
    refine q_rGR C hp h rfl iX7_note_X7 (by decide) kX7_note_10 dX7_note_16 (fun r_6 h => ?_)
    refine lv_iload_n hx hb dX7_note_19 rfl (q_at hl 3 rfl) ?_
    refine q_finI0 C hp (q_runV (As := [.int x2]) (rest := []) C hp (RX5_hasBar l D g _ r_6 x2 _ h _) (cwV 1 C.2.2.2.2.1 gX7_note_X5_hasBar rfl rfl rfl (by decide +kernel) ⟨(Nat.le_of_ble_eq_true rfl), (Nat.le_of_ble_eq_true rfl)⟩) h.1 rfl rfl hl.1.1 rfl (Nat.le_of_ble_eq_true rfl) dX7_note_20 ⟨(Nat.le_of_ble_eq_true rfl), (Nat.le_of_ble_eq_true rfl)⟩) rfl rfl (fun v_8 S_7 H locs h hp => ?_)
    refine lv_if_ne (tgt := 29) hx hb dX7_note_23 (by decide) (fun c_9 => ?_) (fun c_9 => ?_)
    · replace h := h.1 c_9
      refine lv_iload_n hx hb dX7_note_29 rfl (q_at hl 4 rfl) ?_
      refine lv_iload hx hb dX7_note_30 (q_at hl 5 rfl) ?_
      refine lv_iload hx hb dX7_note_32 (q_at hl 6 rfl) ?_
      refine lv_iload hx hb dX7_note_34 (q_at hl 7 rfl) ?_
      refine q_finI0 C hp (q_runS (As := [.int x3, .int x4, .int x5, .int x6]) (rest := []) C hp (RX7_isNote l D g _ x3 x4 x5 x6 _ h _) (va_cwS 4 C.2.2.2.2.1 gX7_note_X7_isNote rfl rfl rfl (by decide +kernel) ⟨(Nat.le_of_ble_eq_true rfl), (Nat.le_of_ble_eq_true rfl)⟩) rfl hl.1.1 rfl (Nat.le_of_ble_eq_true rfl) dX7_note_36 ⟨(Nat.le_of_ble_eq_true rfl), (Nat.le_of_ble_eq_true rfl)⟩) rfl rfl (fun v_11 S_10 H locs h hp => ?_)
      refine lv_if_ne (tgt := 45) hx hb dX7_note_39 (by decide) (fun c_12 => ?_) (fun c_12 => ?_)
      · replace h := h.1 c_12
        refine lv_aload hx hb dX7_note_45 (q_at hl 0 rfl) ?_
        refine q_nGR C hp h rfl iX7_note_X6 (by decide) kX7_note_64 dX7_note_47 (fun r_13 h => ?_)
        refine lv_iload_n hx hb dX7_note_50 rfl (q_at hl 3 rfl) ?_
        refine lv_iload_n hx hb dX7_note_51 rfl (q_at hl 4 rfl) ?_
        refine lv_iload hx hb dX7_note_52 (q_at hl 6 rfl) ?_
        refine q_finI0 C hp (q_runV (As := [.int x2, .int x3, .int x5]) (rest := []) C hp (RX3_hasAt l D g _ r_13 x2 x3 x5 _ h _) (cwV 3 C.2.2.2.2.1 gX7_note_X3_hasAt rfl rfl rfl (by decide +kernel) ⟨(Nat.le_of_ble_eq_true rfl), (Nat.le_of_ble_eq_true rfl)⟩) h.1 rfl rfl hl.1.1 rfl (Nat.le_of_ble_eq_true rfl) dX7_note_54 ⟨(Nat.le_of_ble_eq_true rfl), (Nat.le_of_ble_eq_true rfl)⟩) rfl rfl (fun v_15 S_14 H locs h hp => ?_)
        refine lv_if_eq (tgt := 63) hx hb dX7_note_57 (by decide) (fun c_16 => ?_) (fun c_16 => ?_)
        · replace h := h.1 c_16
          refine lv_aload hx hb dX7_note_63 (q_at hl 0 rfl) ?_
          refine q_nGR C hp h rfl iX7_note_X6 (by decide) kX7_note_64 dX7_note_65 (fun r_17 h => ?_)
          refine lv_iload_n hx hb dX7_note_68 rfl (q_at hl 3 rfl) ?_
          refine q_finI0 C hp (q_runV (As := [.int x2]) (rest := []) C hp (RX3_size l D g _ r_17 x2 _ h _) (cwV 1 C.2.2.2.2.1 gX7_note_X3_size rfl rfl rfl (by decide +kernel) ⟨(Nat.le_of_ble_eq_true rfl), (Nat.le_of_ble_eq_true rfl)⟩) h.1 rfl rfl hl.1.1 rfl (Nat.le_of_ble_eq_true rfl) dX7_note_69 ⟨(Nat.le_of_ble_eq_true rfl), (Nat.le_of_ble_eq_true rfl)⟩) rfl rfl (fun v_19 S_18 H locs h hp => ?_)
          refine lv_bipush (v := 8) hx hb dX7_note_72 (by decide) ?_
          refine lv_icmp_lt (tgt := 80) hx hb dX7_note_74 (by decide) (fun c_20 => ?_) (fun c_20 => ?_)
          · replace h := h.1 c_20
            refine lv_aload hx hb dX7_note_80 (q_at hl 0 rfl) ?_
            refine q_nGR C hp h rfl iX7_note_X6 (by decide) kX7_note_64 dX7_note_82 (fun r_21 h => ?_)
            refine lv_iload_n hx hb dX7_note_85 rfl (q_at hl 3 rfl) ?_
            refine lv_iload_n hx hb dX7_note_86 rfl (q_at hl 4 rfl) ?_
            refine lv_iload hx hb dX7_note_87 (q_at hl 5 rfl) ?_
            refine lv_iload hx hb dX7_note_89 (q_at hl 6 rfl) ?_
            refine lv_iload hx hb dX7_note_91 (q_at hl 7 rfl) ?_
            refine q_finV0 C hp (q_runV (As := [.int x2, .int x3, .int x4, .int x5, .int x6]) (rest := []) C hp (RX3_insert l D g _ r_21 x2 x3 x4 x5 x6 _ h _) (cwV 5 C.2.2.2.2.1 gX7_note_X3_insert rfl rfl rfl (by decide +kernel) ⟨(Nat.le_of_ble_eq_true rfl), (Nat.le_of_ble_eq_true rfl)⟩) h.1 rfl rfl hl.1.1 rfl (Nat.le_of_ble_eq_true rfl) dX7_note_93 ⟨(Nat.le_of_ble_eq_true rfl), (Nat.le_of_ble_eq_true rfl)⟩) rfl rfl (fun S_22 H locs h hp => ?_)
            refine lv_aload hx hb dX7_note_96 (q_at hl 0 rfl) ?_
            refine q_nGR C hp h rfl iX7_note_X6 (by decide) kX7_note_64 dX7_note_98 (fun r_23 h => ?_)
            refine lv_iload_n hx hb dX7_note_101 rfl (q_at hl 3 rfl) ?_
            refine q_finI0 C hp (q_runV (As := [.int x2]) (rest := []) C hp (RX3_size l D g _ r_23 x2 _ h _) (cwV 1 C.2.2.2.2.1 gX7_note_X3_size rfl rfl rfl (by decide +kernel) ⟨(Nat.le_of_ble_eq_true rfl), (Nat.le_of_ble_eq_true rfl)⟩) h.1 rfl rfl hl.1.1 rfl (Nat.le_of_ble_eq_true rfl) dX7_note_102 ⟨(Nat.le_of_ble_eq_true rfl), (Nat.le_of_ble_eq_true rfl)⟩) rfl rfl (fun v_25 S_24 H locs h hp => ?_)
            exact q_iret C hp hr h dX7_note_105
          · replace h := h.2 c_20
            refine lv_bipush (v := (-104)) hx hb dX7_note_77 (by decide) ?_
            exact q_iret C hp hr h dX7_note_79
        · replace h := h.2 c_16
          refine lv_bipush (v := (-103)) hx hb dX7_note_60 (by decide) ?_
          exact q_iret C hp hr h dX7_note_62
      · replace h := h.2 c_12
        refine lv_bipush (v := (-102)) hx hb dX7_note_42 (by decide) ?_
        exact q_iret C hp hr h dX7_note_44
    · replace h := h.2 c_9
      refine lv_bipush (v := (-101)) hx hb dX7_note_26 (by decide) ?_
      exact q_iret C hp hr h dX7_note_28
theorem kX7_drop_10 : Cond.fieldLink RX7 10 (TX7 0).1 (TX7 0).2.1 (TX7 0).2.2.1 ∈ wsX7_drop := by decide +kernel
theorem kX7_drop_64 : Cond.fieldLinkNest RX7 64 (TX6 1).1 (TX6 1).2.1 (TX6 1).2.2.1 RX7 ∈ q_nest := by decide +kernel
theorem iX7_drop_X6 : ∀ w ∈ u_ws RX6 TX6 5, w ∈ wsX7_drop := by decide +kernel
theorem iX7_drop_X7 : ∀ w ∈ u_ws RX7 TX7 6, w ∈ wsX7_drop := by decide +kernel
set_option maxHeartbeats 4000000 in
set_option maxRecDepth 100000 in
theorem RX7_drop (l : Launch) (D : va_G) (g : q_A) (S : q_S) (a0 : Nat) (x1 : Int32) (x2 : Int32) (Q : Int32 → q_S → Prop) (h : wX7_drop a0 x1 x2 Q S) : q_Mi l yX7_drop wsX7_drop rmX7_drop D g [.ref a0, .int x1, .int x2] S Q := by
  refine q_Mi.of (cc := cX7_drop) (nL := 5) (rt := .int) (by decide +kernel) rfl (Nat.le_of_ble_eq_true rfl) rfl ?_
  intro p e s m args below meth c ls A C hr hnm hp hl
  have C : q_X p s m args meth c cX7_drop 5 RX7 wsX7_drop D g A := C
  have hx := C.1
  have hb := C.2.1
  have hl : q_l ls 5 [(0, .ref a0), (1, .int x1), (2, .int x2)] := hl
  unfold wX7_drop at h
  replace h := h.2
  refine lv_aload_n hx hb dX7_drop_0 rfl (q_at hl 0 rfl) ?_
  refine q_rGR C hp h rfl iX7_drop_X7 (by decide) kX7_drop_10 dX7_drop_1 (fun r_1 h => ?_)
  refine lv_iload_n hx hb dX7_drop_4 rfl (q_at hl 1 rfl) ?_
  refine q_finQ0 C hp (q_runV (As := [.int x1]) (rest := []) C hp (RX5_voiceAt l D g _ r_1 x1 _ h _) (cwV 1 C.2.2.2.2.1 gX7_drop_X5_voiceAt rfl rfl rfl (by decide +kernel) ⟨(Nat.le_of_ble_eq_true rfl), (Nat.le_of_ble_eq_true rfl)⟩) h.1 rfl rfl hl.1.1 rfl (Nat.le_of_ble_eq_true rfl) dX7_drop_5 ⟨(Nat.le_of_ble_eq_true rfl), (Nat.le_of_ble_eq_true rfl)⟩) rfl rfl (fun o_3 S_2 H locs h hp => ?_)
  refine q_astn (o := o_3) (lv' := [(3, va_rf o_3), (0, .ref a0), (1, .int x1), (2, .int x2)]) hx hb dX7_drop_8 rfl hl (by decide) rfl (fun ls hl => ?_)
  refine q_aload_n (o := o_3) hx hb dX7_drop_9 rfl (q_at hl 0 rfl) ?_
  refine q_ifnull (o := o_3) (tgt := 24) hx hb dX7_drop_10 (by decide) (fun c_5 => ?_) (fun a_4 c_5 => ?_)
  · have hc_5 := h.1 c_5
    have lc_5 := hl
    have pc_5 := hp
    subst c_5
    have h := hc_5
    have hl := lc_5
    have hp := pc_5
    refine lv_bipush (v := (-101)) hx hb dX7_drop_24 (by decide) ?_
    exact q_iret C hp hr h dX7_drop_26
  · have hc_5 := h.2 a_4 c_5
    have lc_5 := hl
    have pc_5 := hp
    subst c_5
    have h := hc_5
    have hl := lc_5
    have hp := pc_5
    refine lv_aload_n hx hb dX7_drop_13 rfl (q_at hl 1 rfl) ?_
    refine q_rGR C hp h rfl iX7_drop_X7 (by decide) kX7_drop_10 dX7_drop_14 (fun r_6 h => ?_)
    refine lv_iload_n hx hb dX7_drop_17 rfl (q_at hl 3 rfl) ?_
    refine q_finI0 C hp (q_runV (As := [.int x2]) (rest := []) C hp (RX5_hasBar l D g _ r_6 x2 _ h _) (cwV 1 C.2.2.2.2.1 gX7_drop_X5_hasBar rfl rfl rfl (by decide +kernel) ⟨(Nat.le_of_ble_eq_true rfl), (Nat.le_of_ble_eq_true rfl)⟩) h.1 rfl rfl hl.1.1 rfl (Nat.le_of_ble_eq_true rfl) dX7_drop_18 ⟨(Nat.le_of_ble_eq_true rfl), (Nat.le_of_ble_eq_true rfl)⟩) rfl rfl (fun v_8 S_7 H locs h hp => ?_)
    refine lv_if_ne (tgt := 27) hx hb dX7_drop_21 (by decide) (fun c_9 => ?_) (fun c_9 => ?_)
    · replace h := h.1 c_9
      refine lv_aload_n hx hb dX7_drop_27 rfl (q_at hl 0 rfl) ?_
      refine q_nGR C hp h rfl iX7_drop_X6 (by decide) kX7_drop_64 dX7_drop_28 (fun r_10 h => ?_)
      refine lv_iload_n hx hb dX7_drop_31 rfl (q_at hl 3 rfl) ?_
      refine q_finI0 C hp (q_runV (As := [.int x2]) (rest := []) C hp (RX3_size l D g _ r_10 x2 _ h _) (cwV 1 C.2.2.2.2.1 gX7_drop_X3_size rfl rfl rfl (by decide +kernel) ⟨(Nat.le_of_ble_eq_true rfl), (Nat.le_of_ble_eq_true rfl)⟩) h.1 rfl rfl hl.1.1 rfl (Nat.le_of_ble_eq_true rfl) dX7_drop_32 ⟨(Nat.le_of_ble_eq_true rfl), (Nat.le_of_ble_eq_true rfl)⟩) rfl rfl (fun v_12 S_11 H locs h hp => ?_)
      refine q_ist (lv' := [(4, .int v_12), (3, .ref a_4), (0, .ref a0), (1, .int x1), (2, .int x2)]) hx hb dX7_drop_35 hl (by decide) rfl (fun ls hl => ?_)
      refine lv_aload_n hx hb dX7_drop_37 rfl (q_at hl 1 rfl) ?_
      refine q_nGR C hp h rfl iX7_drop_X6 (by decide) kX7_drop_64 dX7_drop_38 (fun r_13 h => ?_)
      refine lv_iload_n hx hb dX7_drop_41 rfl (q_at hl 4 rfl) ?_
      refine lv_iload_n hx hb dX7_drop_42 rfl (q_at hl 4 rfl) ?_
      refine lv_iconst (v := 1) hx hb dX7_drop_43 (by decide) ?_
      refine lv_iadd hx hb dX7_drop_44 ?_
      refine q_finV0 C hp (q_runV (As := [.int x2, .int (x2 + (1 : Int32))]) (rest := []) C hp (RX3_clearFrom l D g _ r_13 x2 (x2 + (1 : Int32)) _ h _) (cwV 2 C.2.2.2.2.1 gX7_drop_X3_clearFrom rfl rfl rfl (by decide +kernel) ⟨(Nat.le_of_ble_eq_true rfl), (Nat.le_of_ble_eq_true rfl)⟩) h.1 rfl rfl hl.1.1 rfl (Nat.le_of_ble_eq_true rfl) dX7_drop_45 ⟨(Nat.le_of_ble_eq_true rfl), (Nat.le_of_ble_eq_true rfl)⟩) rfl rfl (fun S_14 H locs h hp => ?_)
      refine lv_iload hx hb dX7_drop_48 (q_at hl 0 rfl) ?_
      exact q_iret C hp hr h dX7_drop_50
    · replace h := h.2 c_9
      refine lv_bipush (v := (-101)) hx hb dX7_drop_24 (by decide) ?_
      exact q_iret C hp hr h dX7_drop_26

set_option maxHeartbeats 4000000 in
set_option maxRecDepth 100000 in
theorem RX7_isMark (l : Launch) (D : va_G) (g : q_A) (S : q_S) (x0 : Int32) (x1 : Int32) (Q : Int32 → q_S → Prop) (h : wX7_isMark x0 x1 Q S) : q_Mi l yX7_isMark wsX7_isMark rmX7_isMark D g [.int x0, .int x1] S Q := by
  refine q_Mi.of (cc := cX7_isMark) (nL := 2) (rt := .boolean) (by decide +kernel) rfl (Nat.le_of_ble_eq_true rfl) rfl ?_
  intro p e s m args below meth c ls A C hr hnm hp hl
  have C : q_X p s m args meth c cX7_isMark 2 RX7 wsX7_isMark D g A := C
  have hx := C.1
  have hb := C.2.1
  have hl : q_l ls 2 [(0, .int x0), (1, .int x1)] := hl
  unfold wX7_isMark at h
  refine lv_iload_n hx hb dX7_isMark_0 rfl (q_at hl 0 rfl) ?_
  refine lv_if_ne (tgt := 13) hx hb dX7_isMark_1 (by decide) (fun c_1 => ?_) (fun c_1 => ?_)
  · replace h := h.1 c_1
    refine lv_iload_n hx hb dX7_isMark_13 rfl (q_at hl 0 rfl) ?_
    refine lv_iconst (v := 0) hx hb dX7_isMark_14 (by decide) ?_
    refine lv_iconst (v := 4) hx hb dX7_isMark_15 (by decide) ?_
    refine q_finI0 C hp (q_runS (As := [.int x0, .int (0 : Int32), .int (4 : Int32)]) (rest := []) C hp (RX7_isWithin l D g _ x0 (0 : Int32) (4 : Int32) _ h _) (va_cwS 3 C.2.2.2.2.1 gX7_isMark_X7_isWithin rfl rfl rfl (by decide +kernel) ⟨(Nat.le_of_ble_eq_true rfl), (Nat.le_of_ble_eq_true rfl)⟩) rfl hl.1.1 rfl (Nat.le_of_ble_eq_true rfl) dX7_isMark_16 ⟨(Nat.le_of_ble_eq_true rfl), (Nat.le_of_ble_eq_true rfl)⟩) rfl rfl (fun v_3 S_2 H locs h hp => ?_)
    refine lv_if_eq (tgt := 37) hx hb dX7_isMark_19 (by decide) (fun c_4 => ?_) (fun c_4 => ?_)
    · replace h := h.1 c_4
      refine lv_iconst (v := 0) hx hb dX7_isMark_37 (by decide) ?_
      exact q_zret C hp hr h dX7_isMark_38
    · replace h := h.2 c_4
      refine lv_iload_n hx hb dX7_isMark_22 rfl (q_at hl 1 rfl) ?_
      refine lv_iconst (v := 0) hx hb dX7_isMark_23 (by decide) ?_
      refine lv_sipush (v := 999) hx hb dX7_isMark_24 (by decide) ?_
      refine q_finI0 C hp (q_runS (As := [.int x1, .int (0 : Int32), .int (999 : Int32)]) (rest := []) C hp (RX7_isWithin l D g _ x1 (0 : Int32) (999 : Int32) _ h _) (va_cwS 3 C.2.2.2.2.1 gX7_isMark_X7_isWithin rfl rfl rfl (by decide +kernel) ⟨(Nat.le_of_ble_eq_true rfl), (Nat.le_of_ble_eq_true rfl)⟩) rfl hl.1.1 rfl (Nat.le_of_ble_eq_true rfl) dX7_isMark_27 ⟨(Nat.le_of_ble_eq_true rfl), (Nat.le_of_ble_eq_true rfl)⟩) rfl rfl (fun v_6 S_5 H locs h hp => ?_)
      refine lv_if_eq (tgt := 37) hx hb dX7_isMark_30 (by decide) (fun c_7 => ?_) (fun c_7 => ?_)
      · replace h := h.1 c_7
        refine lv_iconst (v := 0) hx hb dX7_isMark_37 (by decide) ?_
        exact q_zret C hp hr h dX7_isMark_38
      · replace h := h.2 c_7
        refine lv_iconst (v := 1) hx hb dX7_isMark_33 (by decide) ?_
        refine lv_goto (tgt := 38) hx hb dX7_isMark_34 (by decide) ?_
        exact q_zret C hp hr h dX7_isMark_38
  · replace h := h.2 c_1
    refine lv_iload_n hx hb dX7_isMark_4 rfl (q_at hl 1 rfl) ?_
    refine lv_bipush (v := (-7)) hx hb dX7_isMark_5 (by decide) ?_
    refine lv_bipush (v := 7) hx hb dX7_isMark_7 (by decide) ?_
    refine q_finI0 C hp (q_runS (As := [.int x1, .int (-7 : Int32), .int (7 : Int32)]) (rest := []) C hp (RX7_isWithin l D g _ x1 (-7 : Int32) (7 : Int32) _ h _) (va_cwS 3 C.2.2.2.2.1 gX7_isMark_X7_isWithin rfl rfl rfl (by decide +kernel) ⟨(Nat.le_of_ble_eq_true rfl), (Nat.le_of_ble_eq_true rfl)⟩) rfl hl.1.1 rfl (Nat.le_of_ble_eq_true rfl) dX7_isMark_9 ⟨(Nat.le_of_ble_eq_true rfl), (Nat.le_of_ble_eq_true rfl)⟩) rfl rfl (fun v_9 S_8 H locs h hp => ?_)
    exact q_zret C hp hr h dX7_isMark_12
theorem kX7_mark_10 : Cond.fieldLink RX7 10 (TX7 0).1 (TX7 0).2.1 (TX7 0).2.2.1 ∈ wsX7_mark := by decide +kernel
theorem kX7_mark_90 : Cond.fieldLinkNest RX7 90 (TX5 1).1 (TX5 1).2.1 (TX5 1).2.2.1 RX7 ∈ q_nest := by decide +kernel
theorem iX7_mark_X5 : ∀ w ∈ u_ws RX5 TX5 5, w ∈ wsX7_mark := by decide +kernel
theorem iX7_mark_X7 : ∀ w ∈ u_ws RX7 TX7 6, w ∈ wsX7_mark := by decide +kernel
set_option maxHeartbeats 4000000 in
set_option maxRecDepth 100000 in
theorem RX7_mark (l : Launch) (D : va_G) (g : q_A) (S : q_S) (a0 : Nat) (x1 : Int32) (x2 : Int32) (x3 : Int32) (Q : Int32 → q_S → Prop) (h : wX7_mark a0 x1 x2 x3 Q S) : q_Mi l yX7_mark wsX7_mark rmX7_mark D g [.ref a0, .int x1, .int x2, .int x3] S Q := by
  refine q_Mi.of (cc := cX7_mark) (nL := 4) (rt := .int) (by decide +kernel) rfl (Nat.le_of_ble_eq_true rfl) rfl ?_
  intro p e s m args below meth c ls A C hr hnm hp hl
  have C : q_X p s m args meth c cX7_mark 4 RX7 wsX7_mark D g A := C
  have hx := C.1
  have hb := C.2.1
  have hl : q_l ls 4 [(0, .ref a0), (1, .int x1), (2, .int x2), (3, .int x3)] := hl
  unfold wX7_mark at h
  replace h := h.2
  refine lv_aload_n hx hb dX7_mark_0 rfl (q_at hl 0 rfl) ?_
  refine q_rGR C hp h rfl iX7_mark_X7 (by decide) kX7_mark_10 dX7_mark_1 (fun r_1 h => ?_)
  refine lv_iload_n hx hb dX7_mark_4 rfl (q_at hl 1 rfl) ?_
  refine q_finI0 C hp (q_runV (As := [.int x1]) (rest := []) C hp (RX5_hasBar l D g _ r_1 x1 _ h _) (cwV 1 C.2.2.2.2.1 gX7_mark_X5_hasBar rfl rfl rfl (by decide +kernel) ⟨(Nat.le_of_ble_eq_true rfl), (Nat.le_of_ble_eq_true rfl)⟩) h.1 rfl rfl hl.1.1 rfl (Nat.le_of_ble_eq_true rfl) dX7_mark_5 ⟨(Nat.le_of_ble_eq_true rfl), (Nat.le_of_ble_eq_true rfl)⟩) rfl rfl (fun v_3 S_2 H locs h hp => ?_)
  refine lv_if_ne (tgt := 14) hx hb dX7_mark_8 (by decide) (fun c_4 => ?_) (fun c_4 => ?_)
  · replace h := h.1 c_4
    refine lv_iload_n hx hb dX7_mark_14 rfl (q_at hl 2 rfl) ?_
    refine lv_iload_n hx hb dX7_mark_15 rfl (q_at hl 3 rfl) ?_
    refine q_finI0 C hp (q_runS (As := [.int x2, .int x3]) (rest := []) C hp (RX7_isMark l D g _ x2 x3 _ h _) (va_cwS 2 C.2.2.2.2.1 gX7_mark_X7_isMark rfl rfl rfl (by decide +kernel) ⟨(Nat.le_of_ble_eq_true rfl), (Nat.le_of_ble_eq_true rfl)⟩) rfl hl.1.1 rfl (Nat.le_of_ble_eq_true rfl) dX7_mark_16 ⟨(Nat.le_of_ble_eq_true rfl), (Nat.le_of_ble_eq_true rfl)⟩) rfl rfl (fun v_6 S_5 H locs h hp => ?_)
    refine lv_if_ne (tgt := 25) hx hb dX7_mark_19 (by decide) (fun c_7 => ?_) (fun c_7 => ?_)
    · replace h := h.1 c_7
      refine lv_aload_n hx hb dX7_mark_25 rfl (q_at hl 0 rfl) ?_
      refine q_rGR C hp h rfl iX7_mark_X7 (by decide) kX7_mark_10 dX7_mark_26 (fun r_8 h => ?_)
      refine q_nGR C hp h rfl iX7_mark_X5 (by decide) kX7_mark_90 dX7_mark_29 (fun r_9 h => ?_)
      refine lv_iload_n hx hb dX7_mark_32 rfl (q_at hl 1 rfl) ?_
      refine lv_iload_n hx hb dX7_mark_33 rfl (q_at hl 2 rfl) ?_
      refine lv_iload_n hx hb dX7_mark_34 rfl (q_at hl 3 rfl) ?_
      refine q_finI0 C hp (q_runV (As := [.int x1, .int x2, .int x3]) (rest := []) C hp (RX2_replace l D g _ r_9 x1 x2 x3 _ h _) (cwV 3 C.2.2.2.2.1 gX7_mark_X2_replace rfl rfl rfl (by decide +kernel) ⟨(Nat.le_of_ble_eq_true rfl), (Nat.le_of_ble_eq_true rfl)⟩) h.1 rfl rfl hl.1.1 rfl (Nat.le_of_ble_eq_true rfl) dX7_mark_35 ⟨(Nat.le_of_ble_eq_true rfl), (Nat.le_of_ble_eq_true rfl)⟩) rfl rfl (fun v_11 S_10 H locs h hp => ?_)
      exact q_iret C hp hr h dX7_mark_38
    · replace h := h.2 c_7
      refine lv_bipush (v := (-102)) hx hb dX7_mark_22 (by decide) ?_
      exact q_iret C hp hr h dX7_mark_24
  · replace h := h.2 c_4
    refine lv_bipush (v := (-101)) hx hb dX7_mark_11 (by decide) ?_
    exact q_iret C hp hr h dX7_mark_13
theorem kX7_unmark_10 : Cond.fieldLink RX7 10 (TX7 0).1 (TX7 0).2.1 (TX7 0).2.2.1 ∈ wsX7_unmark := by decide +kernel
theorem kX7_unmark_90 : Cond.fieldLinkNest RX7 90 (TX5 1).1 (TX5 1).2.1 (TX5 1).2.2.1 RX7 ∈ q_nest := by decide +kernel
theorem iX7_unmark_X5 : ∀ w ∈ u_ws RX5 TX5 5, w ∈ wsX7_unmark := by decide +kernel
theorem iX7_unmark_X7 : ∀ w ∈ u_ws RX7 TX7 6, w ∈ wsX7_unmark := by decide +kernel
set_option maxHeartbeats 4000000 in
set_option maxRecDepth 100000 in
theorem RX7_unmark (l : Launch) (D : va_G) (g : q_A) (S : q_S) (a0 : Nat) (x1 : Int32) (x2 : Int32) (Q : Int32 → q_S → Prop) (h : wX7_unmark a0 x1 x2 Q S) : q_Mi l yX7_unmark wsX7_unmark rmX7_unmark D g [.ref a0, .int x1, .int x2] S Q := by
  refine q_Mi.of (cc := cX7_unmark) (nL := 3) (rt := .int) (by decide +kernel) rfl (Nat.le_of_ble_eq_true rfl) rfl ?_
  intro p e s m args below meth c ls A C hr hnm hp hl
  have C : q_X p s m args meth c cX7_unmark 3 RX7 wsX7_unmark D g A := C
  have hx := C.1
  have hb := C.2.1
  have hl : q_l ls 3 [(0, .ref a0), (1, .int x1), (2, .int x2)] := hl
  unfold wX7_unmark at h
  replace h := h.2
  refine lv_aload_n hx hb dX7_unmark_0 rfl (q_at hl 0 rfl) ?_
  refine q_rGR C hp h rfl iX7_unmark_X7 (by decide) kX7_unmark_10 dX7_unmark_1 (fun r_1 h => ?_)
  refine lv_iload_n hx hb dX7_unmark_4 rfl (q_at hl 1 rfl) ?_
  refine q_finI0 C hp (q_runV (As := [.int x1]) (rest := []) C hp (RX5_hasBar l D g _ r_1 x1 _ h _) (cwV 1 C.2.2.2.2.1 gX7_unmark_X5_hasBar rfl rfl rfl (by decide +kernel) ⟨(Nat.le_of_ble_eq_true rfl), (Nat.le_of_ble_eq_true rfl)⟩) h.1 rfl rfl hl.1.1 rfl (Nat.le_of_ble_eq_true rfl) dX7_unmark_5 ⟨(Nat.le_of_ble_eq_true rfl), (Nat.le_of_ble_eq_true rfl)⟩) rfl rfl (fun v_3 S_2 H locs h hp => ?_)
  refine lv_if_ne (tgt := 14) hx hb dX7_unmark_8 (by decide) (fun c_4 => ?_) (fun c_4 => ?_)
  · replace h := h.1 c_4
    refine lv_iload_n hx hb dX7_unmark_14 rfl (q_at hl 2 rfl) ?_
    refine lv_iconst (v := 0) hx hb dX7_unmark_15 (by decide) ?_
    refine lv_iconst (v := 4) hx hb dX7_unmark_16 (by decide) ?_
    refine q_finI0 C hp (q_runS (As := [.int x2, .int (0 : Int32), .int (4 : Int32)]) (rest := []) C hp (RX7_isWithin l D g _ x2 (0 : Int32) (4 : Int32) _ h _) (va_cwS 3 C.2.2.2.2.1 gX7_unmark_X7_isWithin rfl rfl rfl (by decide +kernel) ⟨(Nat.le_of_ble_eq_true rfl), (Nat.le_of_ble_eq_true rfl)⟩) rfl hl.1.1 rfl (Nat.le_of_ble_eq_true rfl) dX7_unmark_17 ⟨(Nat.le_of_ble_eq_true rfl), (Nat.le_of_ble_eq_true rfl)⟩) rfl rfl (fun v_6 S_5 H locs h hp => ?_)
    refine lv_if_ne (tgt := 26) hx hb dX7_unmark_20 (by decide) (fun c_7 => ?_) (fun c_7 => ?_)
    · replace h := h.1 c_7
      refine lv_aload_n hx hb dX7_unmark_26 rfl (q_at hl 0 rfl) ?_
      refine q_rGR C hp h rfl iX7_unmark_X7 (by decide) kX7_unmark_10 dX7_unmark_27 (fun r_8 h => ?_)
      refine q_nGR C hp h rfl iX7_unmark_X5 (by decide) kX7_unmark_90 dX7_unmark_30 (fun r_9 h => ?_)
      refine lv_iload_n hx hb dX7_unmark_33 rfl (q_at hl 1 rfl) ?_
      refine lv_iload_n hx hb dX7_unmark_34 rfl (q_at hl 2 rfl) ?_
      refine lv_bipush (v := (-100)) hx hb dX7_unmark_35 (by decide) ?_
      refine q_finI0 C hp (q_runV (As := [.int x1, .int x2, .int (-100 : Int32)]) (rest := []) C hp (RX2_replace l D g _ r_9 x1 x2 (-100 : Int32) _ h _) (cwV 3 C.2.2.2.2.1 gX7_unmark_X2_replace rfl rfl rfl (by decide +kernel) ⟨(Nat.le_of_ble_eq_true rfl), (Nat.le_of_ble_eq_true rfl)⟩) h.1 rfl rfl hl.1.1 rfl (Nat.le_of_ble_eq_true rfl) dX7_unmark_37 ⟨(Nat.le_of_ble_eq_true rfl), (Nat.le_of_ble_eq_true rfl)⟩) rfl rfl (fun v_11 S_10 H locs h hp => ?_)
      exact q_iret C hp hr h dX7_unmark_40
    · replace h := h.2 c_7
      refine lv_bipush (v := (-102)) hx hb dX7_unmark_23 (by decide) ?_
      exact q_iret C hp hr h dX7_unmark_25
  · replace h := h.2 c_4
    refine lv_bipush (v := (-101)) hx hb dX7_unmark_11 (by decide) ?_
    exact q_iret C hp hr h dX7_unmark_13
theorem kX7_instrument_10 : Cond.fieldLink RX7 10 (TX7 0).1 (TX7 0).2.1 (TX7 0).2.2.1 ∈ wsX7_instrument := by decide +kernel
theorem kX7_instrument_100 : Cond.fieldLinkNest RX7 100 (TX6 2).1 (TX6 2).2.1 (TX6 2).2.2.1 RX7 ∈ q_nest := by decide +kernel
theorem kX7_instrument_103 : Cond.fieldLinkNest RX7 103 (TX6 3).1 (TX6 3).2.1 (TX6 3).2.2.1 RX7 ∈ q_nest := by decide +kernel
theorem iX7_instrument_X6 : ∀ w ∈ u_ws RX6 TX6 5, w ∈ wsX7_instrument := by decide +kernel
theorem iX7_instrument_X7 : ∀ w ∈ u_ws RX7 TX7 6, w ∈ wsX7_instrument := by decide +kernel
set_option maxHeartbeats 4000000 in
set_option maxRecDepth 100000 in
theorem RX7_instrument (l : Launch) (D : va_G) (g : q_A) (S : q_S) (a0 : Nat) (x1 : Int32) (x2 : Int32) (x3 : Int32) (Q : Int32 → q_S → Prop) (h : wX7_instrument a0 x1 x2 x3 Q S) : q_Mi l yX7_instrument wsX7_instrument rmX7_instrument D g [.ref a0, .int x1, .int x2, .int x3] S Q := by
  refine q_Mi.of (cc := cX7_instrument) (nL := 5) (rt := .int) (by decide +kernel) rfl (Nat.le_of_ble_eq_true rfl) rfl ?_
  intro p e s m args below meth c ls A C hr hnm hp hl
  have C : q_X p s m args meth c cX7_instrument 5 RX7 wsX7_instrument D g A := C
  have hx := C.1
  have hb := C.2.1
  have hl : q_l ls 5 [(0, .ref a0), (1, .int x1), (2, .int x2), (3, .int x3)] := hl
  unfold wX7_instrument at h
  replace h := h.2
  refine lv_aload_n hx hb dX7_instrument_0 rfl (q_at hl 0 rfl) ?_
  refine q_rGR C hp h rfl iX7_instrument_X7 (by decide) kX7_instrument_10 dX7_instrument_1 (fun r_1 h => ?_)
  refine lv_iload_n hx hb dX7_instrument_4 rfl (q_at hl 1 rfl) ?_
  refine q_finQ0 C hp (q_runV (As := [.int x1]) (rest := []) C hp (RX5_voiceAt l D g _ r_1 x1 _ h _) (cwV 1 C.2.2.2.2.1 gX7_instrument_X5_voiceAt rfl rfl rfl (by decide +kernel) ⟨(Nat.le_of_ble_eq_true rfl), (Nat.le_of_ble_eq_true rfl)⟩) h.1 rfl rfl hl.1.1 rfl (Nat.le_of_ble_eq_true rfl) dX7_instrument_5 ⟨(Nat.le_of_ble_eq_true rfl), (Nat.le_of_ble_eq_true rfl)⟩) rfl rfl (fun o_3 S_2 H locs h hp => ?_)
  refine q_ast (o := o_3) (lv' := [(4, va_rf o_3), (0, .ref a0), (1, .int x1), (2, .int x2), (3, .int x3)]) hx hb dX7_instrument_8 hl (by decide) rfl (fun ls hl => ?_)
  refine q_aload (o := o_3) hx hb dX7_instrument_10 (q_at hl 0 rfl) ?_
  refine q_ifnonnull (o := o_3) (tgt := 18) hx hb dX7_instrument_12 (by decide) (fun c_5 => ?_) (fun a_4 c_5 => ?_)
  · have hc_5 := h.1 c_5
    have lc_5 := hl
    have pc_5 := hp
    subst c_5
    have h := hc_5
    have hl := lc_5
    have hp := pc_5
    refine lv_bipush (v := (-101)) hx hb dX7_instrument_15 (by decide) ?_
    exact q_iret C hp hr h dX7_instrument_17
  · have hc_5 := h.2 a_4 c_5
    have lc_5 := hl
    have pc_5 := hp
    subst c_5
    have h := hc_5
    have hl := lc_5
    have hp := pc_5
    refine lv_iload_n hx hb dX7_instrument_18 rfl (q_at hl 3 rfl) ?_
    refine lv_bipush (v := (-6)) hx hb dX7_instrument_19 (by decide) ?_
    refine lv_bipush (v := 6) hx hb dX7_instrument_21 (by decide) ?_
    refine q_finI0 C hp (q_runS (As := [.int x2, .int (-6 : Int32), .int (6 : Int32)]) (rest := []) C hp (RX7_isWithin l D g _ x2 (-6 : Int32) (6 : Int32) _ h _) (va_cwS 3 C.2.2.2.2.1 gX7_instrument_X7_isWithin rfl rfl rfl (by decide +kernel) ⟨(Nat.le_of_ble_eq_true rfl), (Nat.le_of_ble_eq_true rfl)⟩) rfl hl.1.1 rfl (Nat.le_of_ble_eq_true rfl) dX7_instrument_23 ⟨(Nat.le_of_ble_eq_true rfl), (Nat.le_of_ble_eq_true rfl)⟩) rfl rfl (fun v_7 S_6 H locs h hp => ?_)
    refine lv_if_eq (tgt := 39) hx hb dX7_instrument_26 (by decide) (fun c_8 => ?_) (fun c_8 => ?_)
    · replace h := h.1 c_8
      refine lv_bipush (v := (-102)) hx hb dX7_instrument_39 (by decide) ?_
      exact q_iret C hp hr h dX7_instrument_41
    · replace h := h.2 c_8
      refine lv_iload_n hx hb dX7_instrument_29 rfl (q_at hl 4 rfl) ?_
      refine lv_bipush (v := (-2)) hx hb dX7_instrument_30 (by decide) ?_
      refine lv_iconst (v := 2) hx hb dX7_instrument_32 (by decide) ?_
      refine q_finI0 C hp (q_runS (As := [.int x3, .int (-2 : Int32), .int (2 : Int32)]) (rest := []) C hp (RX7_isWithin l D g _ x3 (-2 : Int32) (2 : Int32) _ h _) (va_cwS 3 C.2.2.2.2.1 gX7_instrument_X7_isWithin rfl rfl rfl (by decide +kernel) ⟨(Nat.le_of_ble_eq_true rfl), (Nat.le_of_ble_eq_true rfl)⟩) rfl hl.1.1 rfl (Nat.le_of_ble_eq_true rfl) dX7_instrument_33 ⟨(Nat.le_of_ble_eq_true rfl), (Nat.le_of_ble_eq_true rfl)⟩) rfl rfl (fun v_10 S_9 H locs h hp => ?_)
      refine lv_if_ne (tgt := 42) hx hb dX7_instrument_36 (by decide) (fun c_11 => ?_) (fun c_11 => ?_)
      · replace h := h.1 c_11
        refine lv_aload hx hb dX7_instrument_42 (q_at hl 0 rfl) ?_
        refine lv_iload_n hx hb dX7_instrument_44 rfl (q_at hl 3 rfl) ?_
        refine q_nP C hp h tyX6 tyX6_ok nmX6 rfl iX7_instrument_X6 (by decide) kX7_instrument_100 rfl rfl rfl rfl dX7_instrument_45 (fun S_12 H locs h hp => ?_)
        refine lv_aload hx hb dX7_instrument_48 (q_at hl 0 rfl) ?_
        refine lv_iload_n hx hb dX7_instrument_50 rfl (q_at hl 4 rfl) ?_
        refine q_nP C hp h tyX6 tyX6_ok nmX6 rfl iX7_instrument_X6 (by decide) kX7_instrument_103 rfl rfl rfl rfl dX7_instrument_51 (fun S_13 H locs h hp => ?_)
        refine lv_iconst (v := 1) hx hb dX7_instrument_54 (by decide) ?_
        exact q_iret C hp hr h dX7_instrument_55
      · replace h := h.2 c_11
        refine lv_bipush (v := (-102)) hx hb dX7_instrument_39 (by decide) ?_
        exact q_iret C hp hr h dX7_instrument_41
theorem kX7_cueing_10 : Cond.fieldLink RX7 10 (TX7 0).1 (TX7 0).2.1 (TX7 0).2.2.1 ∈ wsX7_cueing := by decide +kernel
theorem kX7_cueing_106 : Cond.fieldLinkNest RX7 106 (TX5 4).1 (TX5 4).2.1 (TX5 4).2.2.1 RX7 ∈ q_nest := by decide +kernel
theorem iX7_cueing_X5 : ∀ w ∈ u_ws RX5 TX5 5, w ∈ wsX7_cueing := by decide +kernel
theorem iX7_cueing_X7 : ∀ w ∈ u_ws RX7 TX7 6, w ∈ wsX7_cueing := by decide +kernel
set_option maxHeartbeats 4000000 in
set_option maxRecDepth 100000 in
theorem RX7_cueing (l : Launch) (D : va_G) (g : q_A) (S : q_S) (a0 : Nat) (x1 : Int32) (Q : Int32 → q_S → Prop) (h : wX7_cueing a0 x1 Q S) : q_Mi l yX7_cueing wsX7_cueing rmX7_cueing D g [.ref a0, .int x1] S Q := by
  refine q_Mi.of (cc := cX7_cueing) (nL := 3) (rt := .int) (by decide +kernel) rfl (Nat.le_of_ble_eq_true rfl) rfl ?_
  intro p e s m args below meth c ls A C hr hnm hp hl
  have C : q_X p s m args meth c cX7_cueing 3 RX7 wsX7_cueing D g A := C
  have hx := C.1
  have hb := C.2.1
  have hl : q_l ls 3 [(0, .ref a0), (1, .int x1)] := hl
  unfold wX7_cueing at h
  replace h := h.2
  refine lv_iload_n hx hb dX7_cueing_0 rfl (q_at hl 1 rfl) ?_
  refine lv_iconst (v := 1) hx hb dX7_cueing_1 (by decide) ?_
  refine lv_bipush (v := 40) hx hb dX7_cueing_2 (by decide) ?_
  refine q_finI0 C hp (q_runS (As := [.int x1, .int (1 : Int32), .int (40 : Int32)]) (rest := []) C hp (RX7_isWithin l D g _ x1 (1 : Int32) (40 : Int32) _ h _) (va_cwS 3 C.2.2.2.2.1 gX7_cueing_X7_isWithin rfl rfl rfl (by decide +kernel) ⟨(Nat.le_of_ble_eq_true rfl), (Nat.le_of_ble_eq_true rfl)⟩) rfl hl.1.1 rfl (Nat.le_of_ble_eq_true rfl) dX7_cueing_4 ⟨(Nat.le_of_ble_eq_true rfl), (Nat.le_of_ble_eq_true rfl)⟩) rfl rfl (fun v_2 S_1 H locs h hp => ?_)
  refine lv_if_ne (tgt := 13) hx hb dX7_cueing_7 (by decide) (fun c_3 => ?_) (fun c_3 => ?_)
  · replace h := h.1 c_3
    refine lv_aload_n hx hb dX7_cueing_13 rfl (q_at hl 0 rfl) ?_
    refine q_rGR C hp h rfl iX7_cueing_X7 (by decide) kX7_cueing_10 dX7_cueing_14 (fun r_4 h => ?_)
    refine q_nGI C hp h rfl iX7_cueing_X5 (by decide) kX7_cueing_106 dX7_cueing_17 (fun v_5 h => ?_)
    refine q_istn (lv' := [(2, .int v_5), (0, .ref a0), (1, .int x1)]) hx hb dX7_cueing_20 rfl hl (by decide) rfl (fun ls hl => ?_)
    refine lv_aload_n hx hb dX7_cueing_21 rfl (q_at hl 1 rfl) ?_
    refine q_rGR C hp h rfl iX7_cueing_X7 (by decide) kX7_cueing_10 dX7_cueing_22 (fun r_6 h => ?_)
    refine lv_iload_n hx hb dX7_cueing_25 rfl (q_at hl 2 rfl) ?_
    refine q_nP C hp h tyX5 tyX5_ok nmX5 rfl iX7_cueing_X5 (by decide) kX7_cueing_106 rfl rfl rfl rfl dX7_cueing_26 (fun S_7 H locs h hp => ?_)
    refine lv_iload_n hx hb dX7_cueing_29 rfl (q_at hl 0 rfl) ?_
    exact q_iret C hp hr h dX7_cueing_30
  · replace h := h.2 c_3
    refine lv_bipush (v := (-102)) hx hb dX7_cueing_10 (by decide) ?_
    exact q_iret C hp hr h dX7_cueing_12
theorem kX7_extract_10 : Cond.fieldLink RX7 10 (TX7 0).1 (TX7 0).2.1 (TX7 0).2.2.1 ∈ wsX7_extract := by decide +kernel
theorem kX7_extract_109 : Cond.fieldLinkNest RX7 109 (TX6 4).1 (TX6 4).2.1 (TX6 4).2.2.1 RX7 ∈ q_nest := by decide +kernel
theorem kX7_extract_118 : Cond.fieldLinkNest RX7 118 (TX4 2).1 (TX4 2).2.1 (TX4 2).2.2.1 RX7 ∈ q_nest := by decide +kernel
theorem iX7_extract_X4 : ∀ w ∈ u_ws RX4 TX4 3, w ∈ wsX7_extract := by decide +kernel
theorem iX7_extract_X6 : ∀ w ∈ u_ws RX6 TX6 5, w ∈ wsX7_extract := by decide +kernel
theorem iX7_extract_X7 : ∀ w ∈ u_ws RX7 TX7 6, w ∈ wsX7_extract := by decide +kernel
theorem kcX7_extract_26 : Cond.classLink RX7 26 RX4 ∈ wsX7_extract := by decide +kernel
theorem kiX7_extract_X4 : Cond.initialized RX4 ∈ wsX7_extract := by decide +kernel
theorem ksX7_extract_X4_init : Cond.initialized yX4_init.cls ∈ wsX7_extract := by decide +kernel
theorem knX7_extract_X4_init : Cond.instanceMethod yX4_init ∈ wsX7_extract := by decide +kernel
theorem ktX7_extract_X4 : Cond.instantiable RX4 3 ∈ wsX7_extract := by decide +kernel
theorem klX7_extract_X4_init : Cond.methodLinkNest RX7 28 yX4_init RX7 ∈ q_nest := by decide +kernel
set_option maxHeartbeats 4000000 in
set_option maxRecDepth 100000 in
theorem RX7_extract (l : Launch) (D : va_G) (g : q_A) (S : q_S) (a0 : Nat) (x1 : Int32) (Q : Int32 → q_S → Prop) (h : wX7_extract a0 x1 Q S) : q_Mi l yX7_extract wsX7_extract rmX7_extract D g [.ref a0, .int x1] S Q := by
  refine q_Mi.of (cc := cX7_extract) (nL := 3) (rt := .int) (by decide +kernel) rfl (Nat.le_of_ble_eq_true rfl) rfl ?_
  intro p e s m args below meth c ls A C hr hnm hp hl
  have C : q_X p s m args meth c cX7_extract 3 RX7 wsX7_extract D g A := C
  have hx := C.1
  have hb := C.2.1
  have hl : q_l ls 3 [(0, .ref a0), (1, .int x1)] := hl
  have j34 : ∀ (a0 : Nat) (a2 : Nat) (S : q_S) (H : Heap) (locs : List Loc) (ls : Array Slot), wX7_extract_b34 Q a0 a2 S → q_P D g A s.heap S H locs → q_l ls 3 [(0, .ref a0), (2, .ref a2)] → W p l e rmX7_extract s m args below meth c H locs rmX7_extract.cells rmX7_extract.slots (MQ below (va_Qi Q (q_B D g A) A) args s rmX7_extract.cells rmX7_extract.slots A) (F0 m 34 ls []) := by
    intro a0 a2 S H locs ls h hp hl
    unfold wX7_extract_b34 at h
    refine lv_aload_n hx hb dX7_extract_34 rfl (q_at hl 0 rfl) ?_
    refine q_rGR C hp h rfl iX7_extract_X7 (by decide) kX7_extract_10 dX7_extract_35 (fun r_1 h => ?_)
    refine lv_aload_n hx hb dX7_extract_38 rfl (q_at hl 1 rfl) ?_
    refine lv_aload_n hx hb dX7_extract_39 rfl (q_at hl 1 rfl) ?_
    refine q_nGO C hp h rfl iX7_extract_X6 (by decide) kX7_extract_109 dX7_extract_40 (fun o_2 h => ?_)
    obtain ⟨a_3, rfl, h⟩ := h
    refine q_finV0 C hp (q_runS (As := [.ref r_1, .ref a2, .ref a_3]) (rest := []) C hp (RX0_make l D g _ r_1 a2 a_3 _ h _) (va_cwS 3 C.2.2.2.2.1 gX7_extract_X0_make rfl rfl rfl (by decide +kernel) ⟨(Nat.le_of_ble_eq_true rfl), (Nat.le_of_ble_eq_true rfl)⟩) rfl hl.1.1 rfl (Nat.le_of_ble_eq_true rfl) dX7_extract_43 ⟨(Nat.le_of_ble_eq_true rfl), (Nat.le_of_ble_eq_true rfl)⟩) rfl rfl (fun S_4 H locs h hp => ?_)
    refine lv_aload_n hx hb dX7_extract_46 rfl (q_at hl 1 rfl) ?_
    refine q_nGO C hp h rfl iX7_extract_X6 (by decide) kX7_extract_109 dX7_extract_47 (fun o_5 h => ?_)
    obtain ⟨a_6, rfl, h⟩ := h
    refine q_nGI C hp h rfl iX7_extract_X4 (by decide) kX7_extract_118 dX7_extract_50 (fun v_7 h => ?_)
    refine W.widen (k := rmX7_extract.cells) (n := rmX7_extract.slots) (Nat.le_of_ble_eq_true rfl) (Nat.le_of_ble_eq_true rfl) ?_
    exact q_iret C hp hr h dX7_extract_53
  unfold wX7_extract at h
  replace h := h.2
  refine lv_aload_n hx hb dX7_extract_0 rfl (q_at hl 0 rfl) ?_
  refine q_rGR C hp h rfl iX7_extract_X7 (by decide) kX7_extract_10 dX7_extract_1 (fun r_8 h => ?_)
  refine lv_iload_n hx hb dX7_extract_4 rfl (q_at hl 1 rfl) ?_
  refine q_finQ0 C hp (q_runV (As := [.int x1]) (rest := []) C hp (RX5_voiceAt l D g _ r_8 x1 _ h _) (cwV 1 C.2.2.2.2.1 gX7_extract_X5_voiceAt rfl rfl rfl (by decide +kernel) ⟨(Nat.le_of_ble_eq_true rfl), (Nat.le_of_ble_eq_true rfl)⟩) h.1 rfl rfl hl.1.1 rfl (Nat.le_of_ble_eq_true rfl) dX7_extract_5 ⟨(Nat.le_of_ble_eq_true rfl), (Nat.le_of_ble_eq_true rfl)⟩) rfl rfl (fun o_10 S_9 H locs h hp => ?_)
  refine q_astn (o := o_10) (lv' := [(2, va_rf o_10), (0, .ref a0), (1, .int x1)]) hx hb dX7_extract_8 rfl hl (by decide) rfl (fun ls hl => ?_)
  refine q_aload_n (o := o_10) hx hb dX7_extract_9 rfl (q_at hl 0 rfl) ?_
  refine q_ifnonnull (o := o_10) (tgt := 16) hx hb dX7_extract_10 (by decide) (fun c_12 => ?_) (fun a_11 c_12 => ?_)
  · have hc_12 := h.1 c_12
    have lc_12 := hl
    have pc_12 := hp
    subst c_12
    have h := hc_12
    have hl := lc_12
    have hp := pc_12
    refine lv_bipush (v := (-101)) hx hb dX7_extract_13 (by decide) ?_
    refine W.widen (k := rmX7_extract.cells) (n := rmX7_extract.slots) (Nat.le_of_ble_eq_true rfl) (Nat.le_of_ble_eq_true rfl) ?_
    exact q_iret C hp hr h dX7_extract_15
  · have hc_12 := h.2 a_11 c_12
    have lc_12 := hl
    have pc_12 := hp
    subst c_12
    have h := hc_12
    have hl := lc_12
    have hp := pc_12
    refine lv_aload_n hx hb dX7_extract_16 rfl (q_at hl 0 rfl) ?_
    refine q_nGO C hp h rfl iX7_extract_X6 (by decide) kX7_extract_109 dX7_extract_17 (fun o_13 h => ?_)
    refine q_ifnonnull (o := o_13) (tgt := 34) hx hb dX7_extract_20 (by decide) (fun c_15 => ?_) (fun a_14 c_15 => ?_)
    · have hc_15 := h.1 c_15
      have lc_15 := hl
      have pc_15 := hp
      subst c_15
      have h := hc_15
      have hl := lc_15
      have hp := pc_15
      refine lv_aload_n hx hb dX7_extract_23 rfl (q_at hl 0 rfl) ?_
      refine q_rNO (N := 3) C hp h tyX4 tyX4_ok rfl iX7_extract_X4 kcX7_extract_26 ktX7_extract_X4 kiX7_extract_X4 (fun j hj => by match j, hj with | 0, _ => rfl | 1, _ => rfl | 2, _ => rfl | j + 3, hj => exact absurd hj (by omega)) (Nat.le_of_ble_eq_true rfl) (Nat.le_of_ble_eq_true rfl) dX7_extract_24 (fun q_16 S_17 H h hp => ?_)
      refine W.widen (k := 1) (n := 3) (Nat.le_of_ble_eq_true rfl) (Nat.le_of_ble_eq_true rfl) ?_
      refine lv_dup hx hb dX7_extract_27 rfl ?_
      refine q_finV C hp (q_runIN (As := []) (rest := [.ref q_16, .ref a_11]) C hp (RX4_init l D g _ q_16 _ h _) ggX7_extract_X4_init rfl klX7_extract_X4_init ksX7_extract_X4_init knX7_extract_X4_init (by decide +kernel) ⟨(Nat.le_of_ble_eq_true rfl), (Nat.le_of_ble_eq_true rfl)⟩ rfl rfl hl.1.1 rfl (Nat.le_of_ble_eq_true rfl) dX7_extract_28 ⟨(Nat.le_of_ble_eq_true rfl), (Nat.le_of_ble_eq_true rfl)⟩) (fun S_18 H locs h hp => ?_)
      refine W.widen (k := 5) (n := 1605) (Nat.le_of_ble_eq_true rfl) (Nat.le_of_ble_eq_true rfl) ?_
      refine q_nP C hp h tyX6 tyX6_ok nmX6 rfl iX7_extract_X6 (by decide) kX7_extract_109 rfl rfl rfl rfl dX7_extract_31 (fun S_19 H locs h hp => ?_)
      refine W.widen (k := rmX7_extract.cells) (n := rmX7_extract.slots) (Nat.le_of_ble_eq_true rfl) (Nat.le_of_ble_eq_true rfl) ?_
      exact j34 a0 a_11 _ _ _ _ h hp (q_sub hl [1, 0] rfl)
    · have hc_15 := h.2 a_14 c_15
      have lc_15 := hl
      have pc_15 := hp
      subst c_15
      have h := hc_15
      have hl := lc_15
      have hp := pc_15
      refine W.widen (k := rmX7_extract.cells) (n := rmX7_extract.slots) (Nat.le_of_ble_eq_true rfl) (Nat.le_of_ble_eq_true rfl) ?_
      exact j34 a0 a_11 _ _ _ _ h hp (q_sub hl [1, 0] rfl)
theorem kX7_row_10 : Cond.fieldLink RX7 10 (TX7 0).1 (TX7 0).2.1 (TX7 0).2.2.1 ∈ wsX7_row := by decide +kernel
theorem iX7_row_X7 : ∀ w ∈ u_ws RX7 TX7 6, w ∈ wsX7_row := by decide +kernel
set_option maxHeartbeats 4000000 in
set_option maxRecDepth 100000 in
theorem RX7_row (l : Launch) (D : va_G) (g : q_A) (S : q_S) (a0 : Nat) (x1 : Int32) (x2 : Int32) (x3 : Int32) (Q : Int32 → q_S → Prop) (h : wX7_row a0 x1 x2 x3 Q S) : q_Mi l yX7_row wsX7_row rmX7_row D g [.ref a0, .int x1, .int x2, .int x3] S Q := by
  refine q_Mi.of (cc := cX7_row) (nL := 5) (rt := .int) (by decide +kernel) rfl (Nat.le_of_ble_eq_true rfl) rfl ?_
  intro p e s m args below meth c ls A C hr hnm hp hl
  have C : q_X p s m args meth c cX7_row 5 RX7 wsX7_row D g A := C
  have hx := C.1
  have hb := C.2.1
  have hl : q_l ls 5 [(0, .ref a0), (1, .int x1), (2, .int x2), (3, .int x3)] := hl
  unfold wX7_row at h
  replace h := h.2
  refine lv_aload_n hx hb dX7_row_0 rfl (q_at hl 0 rfl) ?_
  refine q_rGR C hp h rfl iX7_row_X7 (by decide) kX7_row_10 dX7_row_1 (fun r_1 h => ?_)
  refine lv_iload_n hx hb dX7_row_4 rfl (q_at hl 1 rfl) ?_
  refine q_finQ0 C hp (q_runV (As := [.int x1]) (rest := []) C hp (RX5_partOf l D g _ r_1 x1 _ h _) (cwV 1 C.2.2.2.2.1 gX7_row_X5_partOf rfl rfl rfl (by decide +kernel) ⟨(Nat.le_of_ble_eq_true rfl), (Nat.le_of_ble_eq_true rfl)⟩) h.1 rfl rfl hl.1.1 rfl (Nat.le_of_ble_eq_true rfl) dX7_row_5 ⟨(Nat.le_of_ble_eq_true rfl), (Nat.le_of_ble_eq_true rfl)⟩) rfl rfl (fun o_3 S_2 H locs h hp => ?_)
  refine q_ast (o := o_3) (lv' := [(4, va_rf o_3), (0, .ref a0), (1, .int x1), (2, .int x2), (3, .int x3)]) hx hb dX7_row_8 hl (by decide) rfl (fun ls hl => ?_)
  refine q_aload (o := o_3) hx hb dX7_row_10 (q_at hl 0 rfl) ?_
  refine q_ifnull (o := o_3) (tgt := 24) hx hb dX7_row_12 (by decide) (fun c_5 => ?_) (fun a_4 c_5 => ?_)
  · have hc_5 := h.1 c_5
    have lc_5 := hl
    have pc_5 := hp
    subst c_5
    have h := hc_5
    have hl := lc_5
    have hp := pc_5
    refine lv_bipush (v := (-101)) hx hb dX7_row_24 (by decide) ?_
    exact q_iret C hp hr h dX7_row_26
  · have hc_5 := h.2 a_4 c_5
    have lc_5 := hl
    have pc_5 := hp
    subst c_5
    have h := hc_5
    have hl := lc_5
    have hp := pc_5
    refine lv_aload hx hb dX7_row_15 (q_at hl 0 rfl) ?_
    refine lv_iload_n hx hb dX7_row_17 rfl (q_at hl 3 rfl) ?_
    refine q_finI0 C hp (q_runV (As := [.int x2]) (rest := []) C hp (RX4_hasRow l D g _ a_4 x2 _ h _) (cwV 1 C.2.2.2.2.1 gX7_row_X4_hasRow rfl rfl rfl (by decide +kernel) ⟨(Nat.le_of_ble_eq_true rfl), (Nat.le_of_ble_eq_true rfl)⟩) h.1 rfl rfl hl.1.1 rfl (Nat.le_of_ble_eq_true rfl) dX7_row_18 ⟨(Nat.le_of_ble_eq_true rfl), (Nat.le_of_ble_eq_true rfl)⟩) rfl rfl (fun v_7 S_6 H locs h hp => ?_)
    refine lv_if_ne (tgt := 27) hx hb dX7_row_21 (by decide) (fun c_8 => ?_) (fun c_8 => ?_)
    · replace h := h.1 c_8
      refine lv_iload_n hx hb dX7_row_27 rfl (q_at hl 4 rfl) ?_
      refine lv_iconst (v := 0) hx hb dX7_row_28 (by decide) ?_
      refine lv_bipush (v := 6) hx hb dX7_row_29 (by decide) ?_
      refine q_finI0 C hp (q_runS (As := [.int x3, .int (0 : Int32), .int (6 : Int32)]) (rest := []) C hp (RX7_isWithin l D g _ x3 (0 : Int32) (6 : Int32) _ h _) (va_cwS 3 C.2.2.2.2.1 gX7_row_X7_isWithin rfl rfl rfl (by decide +kernel) ⟨(Nat.le_of_ble_eq_true rfl), (Nat.le_of_ble_eq_true rfl)⟩) rfl hl.1.1 rfl (Nat.le_of_ble_eq_true rfl) dX7_row_31 ⟨(Nat.le_of_ble_eq_true rfl), (Nat.le_of_ble_eq_true rfl)⟩) rfl rfl (fun v_10 S_9 H locs h hp => ?_)
      refine lv_if_ne (tgt := 40) hx hb dX7_row_34 (by decide) (fun c_11 => ?_) (fun c_11 => ?_)
      · replace h := h.1 c_11
        refine lv_aload hx hb dX7_row_40 (q_at hl 0 rfl) ?_
        refine lv_iload_n hx hb dX7_row_42 rfl (q_at hl 3 rfl) ?_
        refine lv_iload_n hx hb dX7_row_43 rfl (q_at hl 4 rfl) ?_
        refine q_finI0 C hp (q_runV (As := [.int x2, .int x3]) (rest := []) C hp (RX4_figure l D g _ a_4 x2 x3 _ h _) (cwV 2 C.2.2.2.2.1 gX7_row_X4_figure rfl rfl rfl (by decide +kernel) ⟨(Nat.le_of_ble_eq_true rfl), (Nat.le_of_ble_eq_true rfl)⟩) h.1 rfl rfl hl.1.1 rfl (Nat.le_of_ble_eq_true rfl) dX7_row_44 ⟨(Nat.le_of_ble_eq_true rfl), (Nat.le_of_ble_eq_true rfl)⟩) rfl rfl (fun v_13 S_12 H locs h hp => ?_)
        exact q_iret C hp hr h dX7_row_47
      · replace h := h.2 c_11
        refine lv_bipush (v := (-102)) hx hb dX7_row_37 (by decide) ?_
        exact q_iret C hp hr h dX7_row_39
    · replace h := h.2 c_8
      refine lv_bipush (v := (-101)) hx hb dX7_row_24 (by decide) ?_
      exact q_iret C hp hr h dX7_row_26
theorem kX7_written_10 : Cond.fieldLink RX7 10 (TX7 0).1 (TX7 0).2.1 (TX7 0).2.2.1 ∈ wsX7_written := by decide +kernel
theorem kX7_written_132 : Cond.fieldLinkNest RX7 132 (TX4 1).1 (TX4 1).2.1 (TX4 1).2.2.1 RX7 ∈ q_nest := by decide +kernel
theorem iX7_written_X4 : ∀ w ∈ u_ws RX4 TX4 3, w ∈ wsX7_written := by decide +kernel
theorem iX7_written_X7 : ∀ w ∈ u_ws RX7 TX7 6, w ∈ wsX7_written := by decide +kernel
set_option maxHeartbeats 4000000 in
set_option maxRecDepth 100000 in
theorem RX7_written (l : Launch) (D : va_G) (g : q_A) (S : q_S) (a0 : Nat) (x1 : Int32) (x2 : Int32) (x3 : Int32) (x4 : Int32) (Q : Int32 → q_S → Prop) (h : wX7_written a0 x1 x2 x3 x4 Q S) : q_Mi l yX7_written wsX7_written rmX7_written D g [.ref a0, .int x1, .int x2, .int x3, .int x4] S Q := by
  refine q_Mi.of (cc := cX7_written) (nL := 6) (rt := .int) (by decide +kernel) rfl (Nat.le_of_ble_eq_true rfl) rfl ?_
  intro p e s m args below meth c ls A C hr hnm hp hl
  have C : q_X p s m args meth c cX7_written 6 RX7 wsX7_written D g A := C
  have hx := C.1
  have hb := C.2.1
  have hl : q_l ls 6 [(0, .ref a0), (1, .int x1), (2, .int x2), (3, .int x3), (4, .int x4)] := hl
  unfold wX7_written at h
  replace h := h.2
  refine lv_aload_n hx hb dX7_written_0 rfl (q_at hl 0 rfl) ?_
  refine q_rGR C hp h rfl iX7_written_X7 (by decide) kX7_written_10 dX7_written_1 (fun r_1 h => ?_)
  refine lv_iload_n hx hb dX7_written_4 rfl (q_at hl 1 rfl) ?_
  refine q_finQ0 C hp (q_runV (As := [.int x1]) (rest := []) C hp (RX5_partOf l D g _ r_1 x1 _ h _) (cwV 1 C.2.2.2.2.1 gX7_written_X5_partOf rfl rfl rfl (by decide +kernel) ⟨(Nat.le_of_ble_eq_true rfl), (Nat.le_of_ble_eq_true rfl)⟩) h.1 rfl rfl hl.1.1 rfl (Nat.le_of_ble_eq_true rfl) dX7_written_5 ⟨(Nat.le_of_ble_eq_true rfl), (Nat.le_of_ble_eq_true rfl)⟩) rfl rfl (fun o_3 S_2 H locs h hp => ?_)
  refine q_ast (o := o_3) (lv' := [(5, va_rf o_3), (0, .ref a0), (1, .int x1), (2, .int x2), (3, .int x3), (4, .int x4)]) hx hb dX7_written_8 hl (by decide) rfl (fun ls hl => ?_)
  refine q_aload (o := o_3) hx hb dX7_written_10 (q_at hl 0 rfl) ?_
  refine q_ifnull (o := o_3) (tgt := 43) hx hb dX7_written_12 (by decide) (fun c_5 => ?_) (fun a_4 c_5 => ?_)
  · have hc_5 := h.1 c_5
    have lc_5 := hl
    have pc_5 := hp
    subst c_5
    have h := hc_5
    have hl := lc_5
    have hp := pc_5
    refine lv_bipush (v := (-101)) hx hb dX7_written_43 (by decide) ?_
    exact q_iret C hp hr h dX7_written_45
  · have hc_5 := h.2 a_4 c_5
    have lc_5 := hl
    have pc_5 := hp
    subst c_5
    have h := hc_5
    have hl := lc_5
    have hp := pc_5
    refine lv_aload hx hb dX7_written_15 (q_at hl 0 rfl) ?_
    refine lv_iload_n hx hb dX7_written_17 rfl (q_at hl 3 rfl) ?_
    refine q_finI0 C hp (q_runV (As := [.int x2]) (rest := []) C hp (RX4_hasRow l D g _ a_4 x2 _ h _) (cwV 1 C.2.2.2.2.1 gX7_written_X4_hasRow rfl rfl rfl (by decide +kernel) ⟨(Nat.le_of_ble_eq_true rfl), (Nat.le_of_ble_eq_true rfl)⟩) h.1 rfl rfl hl.1.1 rfl (Nat.le_of_ble_eq_true rfl) dX7_written_18 ⟨(Nat.le_of_ble_eq_true rfl), (Nat.le_of_ble_eq_true rfl)⟩) rfl rfl (fun v_7 S_6 H locs h hp => ?_)
    refine lv_if_eq (tgt := 43) hx hb dX7_written_21 (by decide) (fun c_8 => ?_) (fun c_8 => ?_)
    · replace h := h.1 c_8
      refine lv_bipush (v := (-101)) hx hb dX7_written_43 (by decide) ?_
      exact q_iret C hp hr h dX7_written_45
    · replace h := h.2 c_8
      refine lv_iload_n hx hb dX7_written_24 rfl (q_at hl 4 rfl) ?_
      refine lv_iconst (v := 0) hx hb dX7_written_25 (by decide) ?_
      refine lv_aload hx hb dX7_written_26 (q_at hl 0 rfl) ?_
      refine q_nGR C hp h rfl iX7_written_X4 (by decide) kX7_written_132 dX7_written_28 (fun r_9 h => ?_)
      refine lv_iload_n hx hb dX7_written_31 rfl (q_at hl 3 rfl) ?_
      refine q_finI0 C hp (q_runV (As := [.int x2]) (rest := [.int (0 : Int32), .int x3]) C hp (RX3_size l D g _ r_9 x2 _ h _) (cwV 1 C.2.2.2.2.1 gX7_written_X3_size rfl rfl rfl (by decide +kernel) ⟨(Nat.le_of_ble_eq_true rfl), (Nat.le_of_ble_eq_true rfl)⟩) h.1 rfl rfl hl.1.1 rfl (Nat.le_of_ble_eq_true rfl) dX7_written_32 ⟨(Nat.le_of_ble_eq_true rfl), (Nat.le_of_ble_eq_true rfl)⟩) rfl rfl (fun v_11 S_10 H locs h hp => ?_)
      refine lv_iconst (v := 1) hx hb dX7_written_35 (by decide) ?_
      refine lv_isub hx hb dX7_written_36 ?_
      refine q_finI0 C hp (q_runS (As := [.int x3, .int (0 : Int32), .int (v_11 - (1 : Int32))]) (rest := []) C hp (RX7_isWithin l D g _ x3 (0 : Int32) (v_11 - (1 : Int32)) _ h _) (va_cwS 3 C.2.2.2.2.1 gX7_written_X7_isWithin rfl rfl rfl (by decide +kernel) ⟨(Nat.le_of_ble_eq_true rfl), (Nat.le_of_ble_eq_true rfl)⟩) rfl hl.1.1 rfl (Nat.le_of_ble_eq_true rfl) dX7_written_37 ⟨(Nat.le_of_ble_eq_true rfl), (Nat.le_of_ble_eq_true rfl)⟩) rfl rfl (fun v_13 S_12 H locs h hp => ?_)
      refine lv_if_ne (tgt := 46) hx hb dX7_written_40 (by decide) (fun c_14 => ?_) (fun c_14 => ?_)
      · replace h := h.1 c_14
        refine lv_iload hx hb dX7_written_46 (q_at hl 5 rfl) ?_
        refine lv_iconst (v := 0) hx hb dX7_written_48 (by decide) ?_
        refine lv_iconst (v := 3) hx hb dX7_written_49 (by decide) ?_
        refine q_finI0 C hp (q_runS (As := [.int x4, .int (0 : Int32), .int (3 : Int32)]) (rest := []) C hp (RX7_isWithin l D g _ x4 (0 : Int32) (3 : Int32) _ h _) (va_cwS 3 C.2.2.2.2.1 gX7_written_X7_isWithin rfl rfl rfl (by decide +kernel) ⟨(Nat.le_of_ble_eq_true rfl), (Nat.le_of_ble_eq_true rfl)⟩) rfl hl.1.1 rfl (Nat.le_of_ble_eq_true rfl) dX7_written_50 ⟨(Nat.le_of_ble_eq_true rfl), (Nat.le_of_ble_eq_true rfl)⟩) rfl rfl (fun v_16 S_15 H locs h hp => ?_)
        refine lv_if_ne (tgt := 59) hx hb dX7_written_53 (by decide) (fun c_17 => ?_) (fun c_17 => ?_)
        · replace h := h.1 c_17
          refine lv_aload hx hb dX7_written_59 (q_at hl 0 rfl) ?_
          refine q_nGR C hp h rfl iX7_written_X4 (by decide) kX7_written_132 dX7_written_61 (fun r_18 h => ?_)
          refine lv_iload_n hx hb dX7_written_64 rfl (q_at hl 3 rfl) ?_
          refine lv_iload_n hx hb dX7_written_65 rfl (q_at hl 4 rfl) ?_
          refine lv_iload hx hb dX7_written_66 (q_at hl 5 rfl) ?_
          refine q_finI0 C hp (q_runV (As := [.int x2, .int x3, .int x4]) (rest := []) C hp (RX3_figure l D g _ r_18 x2 x3 x4 _ h _) (cwV 3 C.2.2.2.2.1 gX7_written_X3_figure rfl rfl rfl (by decide +kernel) ⟨(Nat.le_of_ble_eq_true rfl), (Nat.le_of_ble_eq_true rfl)⟩) h.1 rfl rfl hl.1.1 rfl (Nat.le_of_ble_eq_true rfl) dX7_written_68 ⟨(Nat.le_of_ble_eq_true rfl), (Nat.le_of_ble_eq_true rfl)⟩) rfl rfl (fun v_20 S_19 H locs h hp => ?_)
          exact q_iret C hp hr h dX7_written_71
        · replace h := h.2 c_17
          refine lv_bipush (v := (-102)) hx hb dX7_written_56 (by decide) ?_
          exact q_iret C hp hr h dX7_written_58
      · replace h := h.2 c_14
        refine lv_bipush (v := (-101)) hx hb dX7_written_43 (by decide) ?_
        exact q_iret C hp hr h dX7_written_45
theorem kX7_unlike_10 : Cond.fieldLink RX7 10 (TX7 0).1 (TX7 0).2.1 (TX7 0).2.2.1 ∈ wsX7_unlike := by decide +kernel
theorem kX7_unlike_29 : Cond.fieldLink RX7 29 (TX7 3).1 (TX7 3).2.1 (TX7 3).2.2.1 ∈ wsX7_unlike := by decide +kernel
theorem iX7_unlike_X7 : ∀ w ∈ u_ws RX7 TX7 6, w ∈ wsX7_unlike := by decide +kernel
set_option maxHeartbeats 4000000 in
set_option maxRecDepth 100000 in
theorem RX7_unlike (l : Launch) (D : va_G) (g : q_A) (S : q_S) (a0 : Nat) (x1 : Int32) (Q : Int32 → q_S → Prop) (h : wX7_unlike a0 x1 Q S) : q_Mi l yX7_unlike wsX7_unlike rmX7_unlike D g [.ref a0, .int x1] S Q := by
  refine q_Mi.of (cc := cX7_unlike) (nL := 4) (rt := .int) (by decide +kernel) rfl (Nat.le_of_ble_eq_true rfl) rfl ?_
  intro p e s m args below meth c ls A C hr hnm hp hl
  have C : q_X p s m args meth c cX7_unlike 4 RX7 wsX7_unlike D g A := C
  have hx := C.1
  have hb := C.2.1
  have hl : q_l ls 4 [(0, .ref a0), (1, .int x1)] := hl
  unfold wX7_unlike at h
  replace h := h.2
  refine lv_aload_n hx hb dX7_unlike_0 rfl (q_at hl 0 rfl) ?_
  refine q_rGR C hp h rfl iX7_unlike_X7 (by decide) kX7_unlike_10 dX7_unlike_1 (fun r_1 h => ?_)
  refine lv_iload_n hx hb dX7_unlike_4 rfl (q_at hl 1 rfl) ?_
  refine q_finQ0 C hp (q_runV (As := [.int x1]) (rest := []) C hp (RX5_voiceAt l D g _ r_1 x1 _ h _) (cwV 1 C.2.2.2.2.1 gX7_unlike_X5_voiceAt rfl rfl rfl (by decide +kernel) ⟨(Nat.le_of_ble_eq_true rfl), (Nat.le_of_ble_eq_true rfl)⟩) h.1 rfl rfl hl.1.1 rfl (Nat.le_of_ble_eq_true rfl) dX7_unlike_5 ⟨(Nat.le_of_ble_eq_true rfl), (Nat.le_of_ble_eq_true rfl)⟩) rfl rfl (fun o_3 S_2 H locs h hp => ?_)
  refine q_astn (o := o_3) (lv' := [(2, va_rf o_3), (0, .ref a0), (1, .int x1)]) hx hb dX7_unlike_8 rfl hl (by decide) rfl (fun ls hl => ?_)
  refine lv_aload_n hx hb dX7_unlike_9 rfl (q_at hl 1 rfl) ?_
  refine q_rGR C hp h rfl iX7_unlike_X7 (by decide) kX7_unlike_10 dX7_unlike_10 (fun r_4 h => ?_)
  refine lv_iload_n hx hb dX7_unlike_13 rfl (q_at hl 2 rfl) ?_
  refine q_finQ0 C hp (q_runV (As := [.int x1]) (rest := []) C hp (RX5_partOf l D g _ r_4 x1 _ h _) (cwV 1 C.2.2.2.2.1 gX7_unlike_X5_partOf rfl rfl rfl (by decide +kernel) ⟨(Nat.le_of_ble_eq_true rfl), (Nat.le_of_ble_eq_true rfl)⟩) h.1 rfl rfl hl.1.1 rfl (Nat.le_of_ble_eq_true rfl) dX7_unlike_14 ⟨(Nat.le_of_ble_eq_true rfl), (Nat.le_of_ble_eq_true rfl)⟩) rfl rfl (fun o_6 S_5 H locs h hp => ?_)
  refine q_astn (o := o_6) (lv' := [(3, va_rf o_6), (2, va_rf o_3), (0, .ref a0), (1, .int x1)]) hx hb dX7_unlike_17 rfl hl (by decide) rfl (fun ls hl => ?_)
  refine q_aload_n (o := o_3) hx hb dX7_unlike_18 rfl (q_at hl 1 rfl) ?_
  refine q_ifnull (o := o_3) (tgt := 26) hx hb dX7_unlike_19 (by decide) (fun c_8 => ?_) (fun a_7 c_8 => ?_)
  · have hc_8 := h.1 c_8
    have lc_8 := hl
    have pc_8 := hp
    subst c_8
    have h := hc_8
    have hl := lc_8
    have hp := pc_8
    refine lv_bipush (v := (-101)) hx hb dX7_unlike_26 (by decide) ?_
    exact q_iret C hp hr h dX7_unlike_28
  · have hc_8 := h.2 a_7 c_8
    have lc_8 := hl
    have pc_8 := hp
    subst c_8
    have h := hc_8
    have hl := lc_8
    have hp := pc_8
    refine q_aload_n (o := o_6) hx hb dX7_unlike_22 rfl (q_at hl 0 rfl) ?_
    refine q_ifnonnull (o := o_6) (tgt := 29) hx hb dX7_unlike_23 (by decide) (fun c_10 => ?_) (fun a_9 c_10 => ?_)
    · have hc_10 := h.1 c_10
      have lc_10 := hl
      have pc_10 := hp
      subst c_10
      have h := hc_10
      have hl := lc_10
      have hp := pc_10
      refine lv_bipush (v := (-101)) hx hb dX7_unlike_26 (by decide) ?_
      exact q_iret C hp hr h dX7_unlike_28
    · have hc_10 := h.2 a_9 c_10
      have lc_10 := hl
      have pc_10 := hp
      subst c_10
      have h := hc_10
      have hl := lc_10
      have hp := pc_10
      refine lv_aload_n hx hb dX7_unlike_29 rfl (q_at hl 2 rfl) ?_
      refine q_rGR C hp h rfl iX7_unlike_X7 (by decide) kX7_unlike_10 dX7_unlike_30 (fun r_11 h => ?_)
      refine lv_aload_n hx hb dX7_unlike_33 rfl (q_at hl 1 rfl) ?_
      refine lv_aload_n hx hb dX7_unlike_34 rfl (q_at hl 2 rfl) ?_
      refine q_rGR C hp h rfl iX7_unlike_X7 (by decide) kX7_unlike_29 dX7_unlike_35 (fun r_12 h => ?_)
      refine q_finV0 C hp (q_runS (As := [.ref r_11, .ref a_7, .ref r_12]) (rest := []) C hp (RX0_make l D g _ r_11 a_7 r_12 _ h _) (va_cwS 3 C.2.2.2.2.1 gX7_unlike_X0_make rfl rfl rfl (by decide +kernel) ⟨(Nat.le_of_ble_eq_true rfl), (Nat.le_of_ble_eq_true rfl)⟩) rfl hl.1.1 rfl (Nat.le_of_ble_eq_true rfl) dX7_unlike_38 ⟨(Nat.le_of_ble_eq_true rfl), (Nat.le_of_ble_eq_true rfl)⟩) rfl rfl (fun S_13 H locs h hp => ?_)
      refine lv_aload_n hx hb dX7_unlike_41 rfl (q_at hl 0 rfl) ?_
      refine lv_aload_n hx hb dX7_unlike_42 rfl (q_at hl 2 rfl) ?_
      refine q_rGR C hp h rfl iX7_unlike_X7 (by decide) kX7_unlike_29 dX7_unlike_43 (fun r_14 h => ?_)
      refine q_finI0 C hp (q_runV (As := [.ref r_14]) (rest := []) C hp (RX4_firstUnlike l D g _ a_9 r_14 _ h _) (cwV 1 C.2.2.2.2.1 gX7_unlike_X4_firstUnlike rfl rfl rfl (by decide +kernel) ⟨(Nat.le_of_ble_eq_true rfl), (Nat.le_of_ble_eq_true rfl)⟩) h.1 rfl rfl hl.1.1 rfl (Nat.le_of_ble_eq_true rfl) dX7_unlike_46 ⟨(Nat.le_of_ble_eq_true rfl), (Nat.le_of_ble_eq_true rfl)⟩) rfl rfl (fun v_16 S_15 H locs h hp => ?_)
      exact q_iret C hp hr h dX7_unlike_49
theorem kX7_isPageAlike_19 : Cond.fieldLink RX7 19 (TX7 1).1 (TX7 1).2.1 (TX7 1).2.2.1 ∈ wsX7_isPageAlike := by decide +kernel
theorem kX7_isPageAlike_23 : Cond.fieldLink RX7 23 (TX7 2).1 (TX7 2).2.1 (TX7 2).2.2.1 ∈ wsX7_isPageAlike := by decide +kernel
theorem iX7_isPageAlike_X7 : ∀ w ∈ u_ws RX7 TX7 6, w ∈ wsX7_isPageAlike := by decide +kernel
set_option maxHeartbeats 4000000 in
set_option maxRecDepth 100000 in
theorem RX7_isPageAlike (l : Launch) (D : va_G) (g : q_A) (S : q_S) (a0 : Nat) (a1 : Nat) (a2 : Nat) (x3 : Int32) (Q : Int32 → q_S → Prop) (h : wX7_isPageAlike a0 a1 a2 x3 Q S) : q_Mi l yX7_isPageAlike wsX7_isPageAlike rmX7_isPageAlike D g [.ref a0, .ref a1, .ref a2, .int x3] S Q := by
  refine q_Mi.of (cc := cX7_isPageAlike) (nL := 7) (rt := .boolean) (by decide +kernel) rfl (Nat.le_of_ble_eq_true rfl) rfl ?_
  intro p e s m args below meth c ls A C hr hnm hp hl
  have C : q_X p s m args meth c cX7_isPageAlike 7 RX7 wsX7_isPageAlike D g A := C
  have hx := C.1
  have hb := C.2.1
  have hl : q_l ls 7 [(0, .ref a0), (1, .ref a1), (2, .ref a2), (3, .int x3)] := hl
  have j69 : ∀ (n : Nat), ∀ (a1 : Nat) (a2 : Nat) (x5 : Int32) (x6 : Int32) (S : q_S) (H : Heap) (locs : List Loc) (ls : Array Slot), lX7_isPageAlike_b69 Q n a1 a2 x5 x6 S → q_P D g A s.heap S H locs → q_l ls 7 [(1, .ref a1), (2, .ref a2), (5, .int x5), (6, .int x6)] → W p l e rmX7_isPageAlike s m args below meth c H locs 0 0 (MQ below (va_Qi Q (q_B D g A) A) args s rmX7_isPageAlike.cells rmX7_isPageAlike.slots A) (F0 m 69 ls []) := by
    intro n
    induction n with
    | zero => intro a1 a2 x5 x6 S H locs ls h; exact absurd h (fun h => h)
    | succ n ih69 =>
      intro a1 a2 x5 x6 S H locs ls h hp hl
      have h : wX7_isPageAlike_b69 Q (lX7_isPageAlike_b69 Q n) a1 a2 x5 x6 S := h
      unfold wX7_isPageAlike_b69 at h
      refine lv_iload hx hb dX7_isPageAlike_69 (q_at hl 3 rfl) ?_
      refine lv_iload hx hb dX7_isPageAlike_71 (q_at hl 2 rfl) ?_
      refine lv_icmp_ge (tgt := 94) hx hb dX7_isPageAlike_73 (by decide) (fun c_1 => ?_) (fun c_1 => ?_)
      · replace h := h.1 c_1
        refine lv_iconst (v := 1) hx hb dX7_isPageAlike_94 (by decide) ?_
        exact q_zret C hp hr h dX7_isPageAlike_95
      · replace h := h.2 c_1
        refine lv_aload_n hx hb dX7_isPageAlike_76 rfl (q_at hl 0 rfl) ?_
        refine lv_aload_n hx hb dX7_isPageAlike_77 rfl (q_at hl 1 rfl) ?_
        refine lv_iload hx hb dX7_isPageAlike_78 (q_at hl 3 rfl) ?_
        refine q_finI0 C hp (q_runV (As := [.ref a2, .int x6]) (rest := []) C hp (RX4_isRowAlike l D g _ a1 a2 x6 _ h _) (cwV 2 C.2.2.2.2.1 gX7_isPageAlike_X4_isRowAlike rfl rfl rfl (by decide +kernel) ⟨(Nat.le_of_ble_eq_true rfl), (Nat.le_of_ble_eq_true rfl)⟩) h.1 rfl rfl hl.1.1 rfl (Nat.le_of_ble_eq_true rfl) dX7_isPageAlike_80 ⟨(Nat.le_of_ble_eq_true rfl), (Nat.le_of_ble_eq_true rfl)⟩) rfl rfl (fun v_3 S_2 H locs h hp => ?_)
        refine lv_if_ne (tgt := 88) hx hb dX7_isPageAlike_83 (by decide) (fun c_4 => ?_) (fun c_4 => ?_)
        · replace h := h.1 c_4
          refine q_inc (x := x6) (v := (x6 + (1 : Int32))) (lv' := [(6, .int (x6 + (1 : Int32))), (1, .ref a1), (2, .ref a2), (5, .int x5)]) hx hb dX7_isPageAlike_88 hl (k := 3) rfl rfl (by decide) rfl (fun ls hl => ?_)
          refine lv_goto (tgt := 69) hx hb dX7_isPageAlike_91 (by decide) ?_
          exact ih69 a1 a2 x5 (x6 + (1 : Int32)) _ _ _ _ h hp (q_sub hl [1, 2, 3, 0] rfl)
        · replace h := h.2 c_4
          refine lv_iconst (v := 0) hx hb dX7_isPageAlike_86 (by decide) ?_
          exact q_zret C hp hr h dX7_isPageAlike_87
  have j3 : ∀ (n : Nat), ∀ (a0 : Nat) (a1 : Nat) (a2 : Nat) (x3 : Int32) (x4 : Int32) (S : q_S) (H : Heap) (locs : List Loc) (ls : Array Slot), lX7_isPageAlike_b3 Q n a0 a1 a2 x3 x4 S → q_P D g A s.heap S H locs → q_l ls 7 [(0, .ref a0), (1, .ref a1), (2, .ref a2), (3, .int x3), (4, .int x4)] → W p l e rmX7_isPageAlike s m args below meth c H locs 0 0 (MQ below (va_Qi Q (q_B D g A) A) args s rmX7_isPageAlike.cells rmX7_isPageAlike.slots A) (F0 m 3 ls []) := by
    intro n
    induction n with
    | zero => intro a0 a1 a2 x3 x4 S H locs ls h; exact absurd h (fun h => h)
    | succ n ih3 =>
      intro a0 a1 a2 x3 x4 S H locs ls h hp hl
      have h : wX7_isPageAlike_b3 Q (lX7_isPageAlike_b3 Q n) a0 a1 a2 x3 x4 S := h
      unfold wX7_isPageAlike_b3 at h
      refine lv_iload hx hb dX7_isPageAlike_3 (q_at hl 4 rfl) ?_
      refine lv_iconst (v := 4) hx hb dX7_isPageAlike_5 (by decide) ?_
      refine lv_icmp_ge (tgt := 40) hx hb dX7_isPageAlike_6 (by decide) (fun c_5 => ?_) (fun c_5 => ?_)
      · replace h := h.1 c_5
        refine lv_aload_n hx hb dX7_isPageAlike_40 rfl (q_at hl 0 rfl) ?_
        refine q_rGR C hp h rfl iX7_isPageAlike_X7 (by decide) kX7_isPageAlike_19 dX7_isPageAlike_41 (fun r_6 h => ?_)
        refine lv_iload_n hx hb dX7_isPageAlike_44 rfl (q_at hl 3 rfl) ?_
        refine lv_iconst (v := 0) hx hb dX7_isPageAlike_45 (by decide) ?_
        refine q_finI0 C hp (q_runV (As := [.int x3, .int (0 : Int32)]) (rest := []) C hp (RX1_figure l D g _ r_6 x3 (0 : Int32) _ h _) (cwV 2 C.2.2.2.2.1 gX7_isPageAlike_X1_figure rfl rfl rfl (by decide +kernel) ⟨(Nat.le_of_ble_eq_true rfl), (Nat.le_of_ble_eq_true rfl)⟩) h.1 rfl rfl hl.1.1 rfl (Nat.le_of_ble_eq_true rfl) dX7_isPageAlike_46 ⟨(Nat.le_of_ble_eq_true rfl), (Nat.le_of_ble_eq_true rfl)⟩) rfl rfl (fun v_8 S_7 H locs h hp => ?_)
        refine q_ist (lv' := [(4, .int v_8), (0, .ref a0), (1, .ref a1), (2, .ref a2), (3, .int x3)]) hx hb dX7_isPageAlike_49 hl (by decide) rfl (fun ls hl => ?_)
        refine lv_iload hx hb dX7_isPageAlike_51 (q_at hl 0 rfl) ?_
        refine lv_aload_n hx hb dX7_isPageAlike_53 rfl (q_at hl 1 rfl) ?_
        refine q_rGR C hp h rfl iX7_isPageAlike_X7 (by decide) kX7_isPageAlike_19 dX7_isPageAlike_54 (fun r_9 h => ?_)
        refine lv_iload_n hx hb dX7_isPageAlike_57 rfl (q_at hl 4 rfl) ?_
        refine lv_iconst (v := 1) hx hb dX7_isPageAlike_58 (by decide) ?_
        refine q_finI0 C hp (q_runV (As := [.int x3, .int (1 : Int32)]) (rest := [.int v_8]) C hp (RX1_figure l D g _ r_9 x3 (1 : Int32) _ h _) (cwV 2 C.2.2.2.2.1 gX7_isPageAlike_X1_figure rfl rfl rfl (by decide +kernel) ⟨(Nat.le_of_ble_eq_true rfl), (Nat.le_of_ble_eq_true rfl)⟩) h.1 rfl rfl hl.1.1 rfl (Nat.le_of_ble_eq_true rfl) dX7_isPageAlike_59 ⟨(Nat.le_of_ble_eq_true rfl), (Nat.le_of_ble_eq_true rfl)⟩) rfl rfl (fun v_11 S_10 H locs h hp => ?_)
        refine lv_iadd hx hb dX7_isPageAlike_62 ?_
        refine q_ist (lv' := [(5, .int (v_8 + v_11)), (4, .int v_8), (0, .ref a0), (1, .ref a1), (2, .ref a2), (3, .int x3)]) hx hb dX7_isPageAlike_63 hl (by decide) rfl (fun ls hl => ?_)
        refine lv_iload hx hb dX7_isPageAlike_65 (q_at hl 1 rfl) ?_
        refine q_ist (lv' := [(6, .int v_8), (5, .int (v_8 + v_11)), (4, .int v_8), (0, .ref a0), (1, .ref a1), (2, .ref a2), (3, .int x3)]) hx hb dX7_isPageAlike_67 hl (by decide) rfl (fun ls hl => ?_)
        exact j69 q_fuel a1 a2 (v_8 + v_11) v_8 _ _ _ _ h hp (q_sub hl [4, 5, 1, 0] rfl)
      · replace h := h.2 c_5
        refine lv_aload_n hx hb dX7_isPageAlike_9 rfl (q_at hl 0 rfl) ?_
        refine q_rGR C hp h rfl iX7_isPageAlike_X7 (by decide) kX7_isPageAlike_19 dX7_isPageAlike_10 (fun r_12 h => ?_)
        refine lv_iload_n hx hb dX7_isPageAlike_13 rfl (q_at hl 3 rfl) ?_
        refine lv_iload hx hb dX7_isPageAlike_14 (q_at hl 4 rfl) ?_
        refine q_finI0 C hp (q_runV (As := [.int x3, .int x4]) (rest := []) C hp (RX1_figure l D g _ r_12 x3 x4 _ h _) (cwV 2 C.2.2.2.2.1 gX7_isPageAlike_X1_figure rfl rfl rfl (by decide +kernel) ⟨(Nat.le_of_ble_eq_true rfl), (Nat.le_of_ble_eq_true rfl)⟩) h.1 rfl rfl hl.1.1 rfl (Nat.le_of_ble_eq_true rfl) dX7_isPageAlike_16 ⟨(Nat.le_of_ble_eq_true rfl), (Nat.le_of_ble_eq_true rfl)⟩) rfl rfl (fun v_14 S_13 H locs h hp => ?_)
        refine lv_aload_n hx hb dX7_isPageAlike_19 rfl (q_at hl 0 rfl) ?_
        refine q_rGR C hp h rfl iX7_isPageAlike_X7 (by decide) kX7_isPageAlike_23 dX7_isPageAlike_20 (fun r_15 h => ?_)
        refine lv_iload_n hx hb dX7_isPageAlike_23 rfl (q_at hl 3 rfl) ?_
        refine lv_iload hx hb dX7_isPageAlike_24 (q_at hl 4 rfl) ?_
        refine q_finI0 C hp (q_runV (As := [.int x3, .int x4]) (rest := [.int v_14]) C hp (RX1_figure l D g _ r_15 x3 x4 _ h _) (cwV 2 C.2.2.2.2.1 gX7_isPageAlike_X1_figure rfl rfl rfl (by decide +kernel) ⟨(Nat.le_of_ble_eq_true rfl), (Nat.le_of_ble_eq_true rfl)⟩) h.1 rfl rfl hl.1.1 rfl (Nat.le_of_ble_eq_true rfl) dX7_isPageAlike_26 ⟨(Nat.le_of_ble_eq_true rfl), (Nat.le_of_ble_eq_true rfl)⟩) rfl rfl (fun v_17 S_16 H locs h hp => ?_)
        refine lv_icmp_eq (tgt := 34) hx hb dX7_isPageAlike_29 (by decide) (fun c_18 => ?_) (fun c_18 => ?_)
        · replace h := h.1 c_18
          refine q_inc (x := x4) (v := (x4 + (1 : Int32))) (lv' := [(4, .int (x4 + (1 : Int32))), (0, .ref a0), (1, .ref a1), (2, .ref a2), (3, .int x3)]) hx hb dX7_isPageAlike_34 hl (k := 4) rfl rfl (by decide) rfl (fun ls hl => ?_)
          refine lv_goto (tgt := 3) hx hb dX7_isPageAlike_37 (by decide) ?_
          exact ih3 a0 a1 a2 x3 (x4 + (1 : Int32)) _ _ _ _ h hp (q_sub hl [1, 2, 3, 4, 0] rfl)
        · replace h := h.2 c_18
          refine lv_iconst (v := 0) hx hb dX7_isPageAlike_32 (by decide) ?_
          exact q_zret C hp hr h dX7_isPageAlike_33
  unfold wX7_isPageAlike at h
  replace h := h.2
  refine lv_iconst (v := 0) hx hb dX7_isPageAlike_0 (by decide) ?_
  refine q_ist (lv' := [(4, .int (0 : Int32)), (0, .ref a0), (1, .ref a1), (2, .ref a2), (3, .int x3)]) hx hb dX7_isPageAlike_1 hl (by decide) rfl (fun ls hl => ?_)
  exact j3 q_fuel a0 a1 a2 x3 (0 : Int32) _ _ _ _ h hp (q_sub hl [1, 2, 3, 4, 0] rfl)
theorem kX7_pagesAlike_19 : Cond.fieldLink RX7 19 (TX7 1).1 (TX7 1).2.1 (TX7 1).2.2.1 ∈ wsX7_pagesAlike := by decide +kernel
theorem kX7_pagesAlike_23 : Cond.fieldLink RX7 23 (TX7 2).1 (TX7 2).2.1 (TX7 2).2.2.1 ∈ wsX7_pagesAlike := by decide +kernel
theorem kX7_pagesAlike_33 : Cond.fieldLink RX7 33 (TX7 4).1 (TX7 4).2.1 (TX7 4).2.2.1 ∈ wsX7_pagesAlike := by decide +kernel
theorem kX7_pagesAlike_37 : Cond.fieldLink RX7 37 (TX7 5).1 (TX7 5).2.1 (TX7 5).2.2.1 ∈ wsX7_pagesAlike := by decide +kernel
theorem kX7_pagesAlike_182 : Cond.fieldLinkNest RX7 182 (TX1 3).1 (TX1 3).2.1 (TX1 3).2.2.1 RX7 ∈ q_nest := by decide +kernel
theorem iX7_pagesAlike_X1 : ∀ w ∈ u_ws RX1 TX1 4, w ∈ wsX7_pagesAlike := by decide +kernel
theorem iX7_pagesAlike_X7 : ∀ w ∈ u_ws RX7 TX7 6, w ∈ wsX7_pagesAlike := by decide +kernel
theorem kmin4X7_pagesAlike : Cond.code Lib.Math.min.name Lib.Math.min.code 2 (some .int) ∈ wsX7_pagesAlike := by decide +kernel
theorem kmin3X7_pagesAlike : Cond.initialized "java/lang/Math" ∈ wsX7_pagesAlike := by decide +kernel
theorem kmin1X7_pagesAlike : Cond.methodLink RX7 185 Lib.Math.min.name ∈ wsX7_pagesAlike := by decide +kernel
theorem kmin2X7_pagesAlike : Cond.static Lib.Math.min.name ∈ wsX7_pagesAlike := by decide +kernel
set_option maxHeartbeats 4000000 in
set_option maxRecDepth 100000 in
theorem RX7_pagesAlike (l : Launch) (D : va_G) (g : q_A) (S : q_S) (a0 : Nat) (a1 : Nat) (a2 : Nat) (Q : Int32 → q_S → Prop) (h : wX7_pagesAlike a0 a1 a2 Q S) : q_Mi l yX7_pagesAlike wsX7_pagesAlike rmX7_pagesAlike D g [.ref a0, .ref a1, .ref a2] S Q := by
  refine q_Mi.of (cc := cX7_pagesAlike) (nL := 5) (rt := .int) (by decide +kernel) rfl (Nat.le_of_ble_eq_true rfl) rfl ?_
  intro p e s m args below meth c ls A C hr hnm hp hl
  have C : q_X p s m args meth c cX7_pagesAlike 5 RX7 wsX7_pagesAlike D g A := C
  have hx := C.1
  have hb := C.2.1
  have hl : q_l ls 5 [(0, .ref a0), (1, .ref a1), (2, .ref a2)] := hl
  have j53 : ∀ (n : Nat), ∀ (a0 : Nat) (a1 : Nat) (a2 : Nat) (x3 : Int32) (x4 : Int32) (S : q_S) (H : Heap) (locs : List Loc) (ls : Array Slot), lX7_pagesAlike_b53 Q n a0 a1 a2 x3 x4 S → q_P D g A s.heap S H locs → q_l ls 5 [(0, .ref a0), (1, .ref a1), (2, .ref a2), (3, .int x3), (4, .int x4)] → W p l e rmX7_pagesAlike s m args below meth c H locs 0 0 (MQ below (va_Qi Q (q_B D g A) A) args s rmX7_pagesAlike.cells rmX7_pagesAlike.slots A) (F0 m 53 ls []) := by
    intro n
    induction n with
    | zero => intro a0 a1 a2 x3 x4 S H locs ls h; exact absurd h (fun h => h)
    | succ n ih53 =>
      intro a0 a1 a2 x3 x4 S H locs ls h hp hl
      have h : wX7_pagesAlike_b53 Q (lX7_pagesAlike_b53 Q n) a0 a1 a2 x3 x4 S := h
      unfold wX7_pagesAlike_b53 at h
      refine lv_iload hx hb dX7_pagesAlike_53 (q_at hl 4 rfl) ?_
      refine lv_iload_n hx hb dX7_pagesAlike_55 rfl (q_at hl 3 rfl) ?_
      refine lv_icmp_ge (tgt := 76) hx hb dX7_pagesAlike_56 (by decide) (fun c_1 => ?_) (fun c_1 => ?_)
      · replace h := h.1 c_1
        refine lv_iload hx hb dX7_pagesAlike_76 (q_at hl 4 rfl) ?_
        exact q_iret C hp hr h dX7_pagesAlike_78
      · replace h := h.2 c_1
        refine lv_aload_n hx hb dX7_pagesAlike_59 rfl (q_at hl 0 rfl) ?_
        refine lv_aload_n hx hb dX7_pagesAlike_60 rfl (q_at hl 1 rfl) ?_
        refine lv_aload_n hx hb dX7_pagesAlike_61 rfl (q_at hl 2 rfl) ?_
        refine lv_iload hx hb dX7_pagesAlike_62 (q_at hl 4 rfl) ?_
        refine q_finI0 C hp (q_runV (As := [.ref a1, .ref a2, .int x4]) (rest := []) C hp (RX7_isPageAlike l D g _ a0 a1 a2 x4 _ h _) (cwV 3 C.2.2.2.2.1 gX7_pagesAlike_X7_isPageAlike rfl rfl rfl (by decide +kernel) ⟨(Nat.le_of_ble_eq_true rfl), (Nat.le_of_ble_eq_true rfl)⟩) h.1 rfl rfl hl.1.1 rfl (Nat.le_of_ble_eq_true rfl) dX7_pagesAlike_64 ⟨(Nat.le_of_ble_eq_true rfl), (Nat.le_of_ble_eq_true rfl)⟩) rfl rfl (fun v_3 S_2 H locs h hp => ?_)
        refine lv_if_eq (tgt := 76) hx hb dX7_pagesAlike_67 (by decide) (fun c_4 => ?_) (fun c_4 => ?_)
        · replace h := h.1 c_4
          refine lv_iload hx hb dX7_pagesAlike_76 (q_at hl 4 rfl) ?_
          exact q_iret C hp hr h dX7_pagesAlike_78
        · replace h := h.2 c_4
          refine q_inc (x := x4) (v := (x4 + (1 : Int32))) (lv' := [(4, .int (x4 + (1 : Int32))), (0, .ref a0), (1, .ref a1), (2, .ref a2), (3, .int x3)]) hx hb dX7_pagesAlike_70 hl (k := 4) rfl rfl (by decide) rfl (fun ls hl => ?_)
          refine lv_goto (tgt := 53) hx hb dX7_pagesAlike_73 (by decide) ?_
          exact ih53 a0 a1 a2 x3 (x4 + (1 : Int32)) _ _ _ _ h hp (q_sub hl [1, 2, 3, 4, 0] rfl)
  unfold wX7_pagesAlike at h
  replace h := h.2
  refine lv_aload_n hx hb dX7_pagesAlike_0 rfl (q_at hl 0 rfl) ?_
  refine q_rGR C hp h rfl iX7_pagesAlike_X7 (by decide) kX7_pagesAlike_19 dX7_pagesAlike_1 (fun r_5 h => ?_)
  refine lv_aload_n hx hb dX7_pagesAlike_4 rfl (q_at hl 1 rfl) ?_
  refine lv_aload_n hx hb dX7_pagesAlike_5 rfl (q_at hl 0 rfl) ?_
  refine q_rGI C hp h rfl iX7_pagesAlike_X7 (by decide) kX7_pagesAlike_33 dX7_pagesAlike_6 (fun v_6 h => ?_)
  refine lv_aload_n hx hb dX7_pagesAlike_9 rfl (q_at hl 0 rfl) ?_
  refine q_rGI C hp h rfl iX7_pagesAlike_X7 (by decide) kX7_pagesAlike_37 dX7_pagesAlike_10 (fun v_7 h => ?_)
  refine q_finV0 C hp (q_runV (As := [.ref a1, .int v_6, .int v_7]) (rest := []) C hp (RX1_arrange l D g _ r_5 a1 v_6 v_7 _ h _) (cwV 3 C.2.2.2.2.1 gX7_pagesAlike_X1_arrange rfl rfl rfl (by decide +kernel) ⟨(Nat.le_of_ble_eq_true rfl), (Nat.le_of_ble_eq_true rfl)⟩) h.1 rfl rfl hl.1.1 rfl (Nat.le_of_ble_eq_true rfl) dX7_pagesAlike_13 ⟨(Nat.le_of_ble_eq_true rfl), (Nat.le_of_ble_eq_true rfl)⟩) rfl rfl (fun S_8 H locs h hp => ?_)
  refine lv_aload_n hx hb dX7_pagesAlike_16 rfl (q_at hl 0 rfl) ?_
  refine q_rGR C hp h rfl iX7_pagesAlike_X7 (by decide) kX7_pagesAlike_23 dX7_pagesAlike_17 (fun r_9 h => ?_)
  refine lv_aload_n hx hb dX7_pagesAlike_20 rfl (q_at hl 2 rfl) ?_
  refine lv_aload_n hx hb dX7_pagesAlike_21 rfl (q_at hl 0 rfl) ?_
  refine q_rGI C hp h rfl iX7_pagesAlike_X7 (by decide) kX7_pagesAlike_33 dX7_pagesAlike_22 (fun v_10 h => ?_)
  refine lv_aload_n hx hb dX7_pagesAlike_25 rfl (q_at hl 0 rfl) ?_
  refine q_rGI C hp h rfl iX7_pagesAlike_X7 (by decide) kX7_pagesAlike_37 dX7_pagesAlike_26 (fun v_11 h => ?_)
  refine q_finV0 C hp (q_runV (As := [.ref a2, .int v_10, .int v_11]) (rest := []) C hp (RX1_arrange l D g _ r_9 a2 v_10 v_11 _ h _) (cwV 3 C.2.2.2.2.1 gX7_pagesAlike_X1_arrange rfl rfl rfl (by decide +kernel) ⟨(Nat.le_of_ble_eq_true rfl), (Nat.le_of_ble_eq_true rfl)⟩) h.1 rfl rfl hl.1.1 rfl (Nat.le_of_ble_eq_true rfl) dX7_pagesAlike_29 ⟨(Nat.le_of_ble_eq_true rfl), (Nat.le_of_ble_eq_true rfl)⟩) rfl rfl (fun S_12 H locs h hp => ?_)
  refine lv_aload_n hx hb dX7_pagesAlike_32 rfl (q_at hl 0 rfl) ?_
  refine q_rGR C hp h rfl iX7_pagesAlike_X7 (by decide) kX7_pagesAlike_19 dX7_pagesAlike_33 (fun r_13 h => ?_)
  refine q_nGI C hp h rfl iX7_pagesAlike_X1 (by decide) kX7_pagesAlike_182 dX7_pagesAlike_36 (fun v_14 h => ?_)
  refine lv_aload_n hx hb dX7_pagesAlike_39 rfl (q_at hl 0 rfl) ?_
  refine q_rGR C hp h rfl iX7_pagesAlike_X7 (by decide) kX7_pagesAlike_23 dX7_pagesAlike_40 (fun r_15 h => ?_)
  refine q_nGI C hp h rfl iX7_pagesAlike_X1 (by decide) kX7_pagesAlike_182 dX7_pagesAlike_43 (fun v_16 h => ?_)
  refine q_min C hl.1.1 kmin1X7_pagesAlike kmin2X7_pagesAlike kmin3X7_pagesAlike kmin4X7_pagesAlike (Nat.le_of_ble_eq_true rfl) (Nat.le_of_ble_eq_true rfl) (Nat.zero_le _) (Nat.zero_le _) dX7_pagesAlike_46 ?_
  refine q_istn (lv' := [(3, .int (if v_16 < v_14 then v_16 else v_14)), (0, .ref a0), (1, .ref a1), (2, .ref a2)]) hx hb dX7_pagesAlike_49 rfl hl (by decide) rfl (fun ls hl => ?_)
  refine lv_iconst (v := 0) hx hb dX7_pagesAlike_50 (by decide) ?_
  refine q_ist (lv' := [(4, .int (0 : Int32)), (3, .int (if v_16 < v_14 then v_16 else v_14)), (0, .ref a0), (1, .ref a1), (2, .ref a2)]) hx hb dX7_pagesAlike_51 hl (by decide) rfl (fun ls hl => ?_)
  exact j53 q_fuel a0 a1 a2 (if v_16 < v_14 then v_16 else v_14) (0 : Int32) _ _ _ _ h hp (q_sub hl [2, 3, 4, 1, 0] rfl)
theorem kX7_renew_10 : Cond.fieldLink RX7 10 (TX7 0).1 (TX7 0).2.1 (TX7 0).2.2.1 ∈ wsX7_renew := by decide +kernel
theorem kX7_renew_29 : Cond.fieldLink RX7 29 (TX7 3).1 (TX7 3).2.1 (TX7 3).2.2.1 ∈ wsX7_renew := by decide +kernel
theorem kX7_renew_109 : Cond.fieldLinkNest RX7 109 (TX6 4).1 (TX6 4).2.1 (TX6 4).2.2.1 RX7 ∈ q_nest := by decide +kernel
theorem iX7_renew_X6 : ∀ w ∈ u_ws RX6 TX6 5, w ∈ wsX7_renew := by decide +kernel
theorem iX7_renew_X7 : ∀ w ∈ u_ws RX7 TX7 6, w ∈ wsX7_renew := by decide +kernel
set_option maxHeartbeats 4000000 in
set_option maxRecDepth 100000 in
theorem RX7_renew (l : Launch) (D : va_G) (g : q_A) (S : q_S) (a0 : Nat) (x1 : Int32) (Q : Int32 → q_S → Prop) (h : wX7_renew a0 x1 Q S) : q_Mi l yX7_renew wsX7_renew rmX7_renew D g [.ref a0, .int x1] S Q := by
  refine q_Mi.of (cc := cX7_renew) (nL := 5) (rt := .int) (by decide +kernel) rfl (Nat.le_of_ble_eq_true rfl) rfl ?_
  intro p e s m args below meth c ls A C hr hnm hp hl
  have C : q_X p s m args meth c cX7_renew 5 RX7 wsX7_renew D g A := C
  have hx := C.1
  have hb := C.2.1
  have hl : q_l ls 5 [(0, .ref a0), (1, .int x1)] := hl
  unfold wX7_renew at h
  replace h := h.2
  refine lv_aload_n hx hb dX7_renew_0 rfl (q_at hl 0 rfl) ?_
  refine q_rGR C hp h rfl iX7_renew_X7 (by decide) kX7_renew_10 dX7_renew_1 (fun r_1 h => ?_)
  refine lv_iload_n hx hb dX7_renew_4 rfl (q_at hl 1 rfl) ?_
  refine q_finQ0 C hp (q_runV (As := [.int x1]) (rest := []) C hp (RX5_voiceAt l D g _ r_1 x1 _ h _) (cwV 1 C.2.2.2.2.1 gX7_renew_X5_voiceAt rfl rfl rfl (by decide +kernel) ⟨(Nat.le_of_ble_eq_true rfl), (Nat.le_of_ble_eq_true rfl)⟩) h.1 rfl rfl hl.1.1 rfl (Nat.le_of_ble_eq_true rfl) dX7_renew_5 ⟨(Nat.le_of_ble_eq_true rfl), (Nat.le_of_ble_eq_true rfl)⟩) rfl rfl (fun o_3 S_2 H locs h hp => ?_)
  refine q_astn (o := o_3) (lv' := [(2, va_rf o_3), (0, .ref a0), (1, .int x1)]) hx hb dX7_renew_8 rfl hl (by decide) rfl (fun ls hl => ?_)
  refine lv_aload_n hx hb dX7_renew_9 rfl (q_at hl 1 rfl) ?_
  refine q_rGR C hp h rfl iX7_renew_X7 (by decide) kX7_renew_10 dX7_renew_10 (fun r_4 h => ?_)
  refine lv_iload_n hx hb dX7_renew_13 rfl (q_at hl 2 rfl) ?_
  refine q_finQ0 C hp (q_runV (As := [.int x1]) (rest := []) C hp (RX5_partOf l D g _ r_4 x1 _ h _) (cwV 1 C.2.2.2.2.1 gX7_renew_X5_partOf rfl rfl rfl (by decide +kernel) ⟨(Nat.le_of_ble_eq_true rfl), (Nat.le_of_ble_eq_true rfl)⟩) h.1 rfl rfl hl.1.1 rfl (Nat.le_of_ble_eq_true rfl) dX7_renew_14 ⟨(Nat.le_of_ble_eq_true rfl), (Nat.le_of_ble_eq_true rfl)⟩) rfl rfl (fun o_6 S_5 H locs h hp => ?_)
  refine q_astn (o := o_6) (lv' := [(3, va_rf o_6), (2, va_rf o_3), (0, .ref a0), (1, .int x1)]) hx hb dX7_renew_17 rfl hl (by decide) rfl (fun ls hl => ?_)
  refine q_aload_n (o := o_3) hx hb dX7_renew_18 rfl (q_at hl 1 rfl) ?_
  refine q_ifnull (o := o_3) (tgt := 26) hx hb dX7_renew_19 (by decide) (fun c_8 => ?_) (fun a_7 c_8 => ?_)
  · have hc_8 := h.1 c_8
    have lc_8 := hl
    have pc_8 := hp
    subst c_8
    have h := hc_8
    have hl := lc_8
    have hp := pc_8
    refine lv_bipush (v := (-101)) hx hb dX7_renew_26 (by decide) ?_
    exact q_iret C hp hr h dX7_renew_28
  · have hc_8 := h.2 a_7 c_8
    have lc_8 := hl
    have pc_8 := hp
    subst c_8
    have h := hc_8
    have hl := lc_8
    have hp := pc_8
    refine q_aload_n (o := o_6) hx hb dX7_renew_22 rfl (q_at hl 0 rfl) ?_
    refine q_ifnonnull (o := o_6) (tgt := 29) hx hb dX7_renew_23 (by decide) (fun c_10 => ?_) (fun a_9 c_10 => ?_)
    · have hc_10 := h.1 c_10
      have lc_10 := hl
      have pc_10 := hp
      subst c_10
      have h := hc_10
      have hl := lc_10
      have hp := pc_10
      refine lv_bipush (v := (-101)) hx hb dX7_renew_26 (by decide) ?_
      exact q_iret C hp hr h dX7_renew_28
    · have hc_10 := h.2 a_9 c_10
      have lc_10 := hl
      have pc_10 := hp
      subst c_10
      have h := hc_10
      have hl := lc_10
      have hp := pc_10
      refine lv_aload_n hx hb dX7_renew_29 rfl (q_at hl 2 rfl) ?_
      refine q_rGR C hp h rfl iX7_renew_X7 (by decide) kX7_renew_10 dX7_renew_30 (fun r_11 h => ?_)
      refine lv_aload_n hx hb dX7_renew_33 rfl (q_at hl 1 rfl) ?_
      refine lv_aload_n hx hb dX7_renew_34 rfl (q_at hl 2 rfl) ?_
      refine q_rGR C hp h rfl iX7_renew_X7 (by decide) kX7_renew_29 dX7_renew_35 (fun r_12 h => ?_)
      refine q_finV0 C hp (q_runS (As := [.ref r_11, .ref a_7, .ref r_12]) (rest := []) C hp (RX0_make l D g _ r_11 a_7 r_12 _ h _) (va_cwS 3 C.2.2.2.2.1 gX7_renew_X0_make rfl rfl rfl (by decide +kernel) ⟨(Nat.le_of_ble_eq_true rfl), (Nat.le_of_ble_eq_true rfl)⟩) rfl hl.1.1 rfl (Nat.le_of_ble_eq_true rfl) dX7_renew_38 ⟨(Nat.le_of_ble_eq_true rfl), (Nat.le_of_ble_eq_true rfl)⟩) rfl rfl (fun S_13 H locs h hp => ?_)
      refine lv_aload_n hx hb dX7_renew_41 rfl (q_at hl 2 rfl) ?_
      refine lv_aload_n hx hb dX7_renew_42 rfl (q_at hl 0 rfl) ?_
      refine lv_aload_n hx hb dX7_renew_43 rfl (q_at hl 2 rfl) ?_
      refine q_rGR C hp h rfl iX7_renew_X7 (by decide) kX7_renew_29 dX7_renew_44 (fun r_14 h => ?_)
      refine q_finI0 C hp (q_runV (As := [.ref a_9, .ref r_14]) (rest := []) C hp (RX7_pagesAlike l D g _ a0 a_9 r_14 _ h _) (cwV 2 C.2.2.2.2.1 gX7_renew_X7_pagesAlike rfl rfl rfl (by decide +kernel) ⟨(Nat.le_of_ble_eq_true rfl), (Nat.le_of_ble_eq_true rfl)⟩) h.1 rfl rfl hl.1.1 rfl (Nat.le_of_ble_eq_true rfl) dX7_renew_47 ⟨(Nat.le_of_ble_eq_true rfl), (Nat.le_of_ble_eq_true rfl)⟩) rfl rfl (fun v_16 S_15 H locs h hp => ?_)
      refine q_ist (lv' := [(4, .int v_16), (3, .ref a_9), (2, .ref a_7), (0, .ref a0), (1, .int x1)]) hx hb dX7_renew_50 hl (by decide) rfl (fun ls hl => ?_)
      refine lv_aload_n hx hb dX7_renew_52 rfl (q_at hl 2 rfl) ?_
      refine lv_aload_n hx hb dX7_renew_53 rfl (q_at hl 3 rfl) ?_
      refine q_rGR C hp h rfl iX7_renew_X7 (by decide) kX7_renew_29 dX7_renew_54 (fun r_17 h => ?_)
      refine q_nP C hp h tyX6 tyX6_ok nmX6 rfl iX7_renew_X6 (by decide) kX7_renew_109 rfl rfl rfl rfl dX7_renew_57 (fun S_18 H locs h hp => ?_)
      refine lv_aload_n hx hb dX7_renew_60 rfl (q_at hl 3 rfl) ?_
      refine lv_aload_n hx hb dX7_renew_61 rfl (q_at hl 1 rfl) ?_
      refine q_rP C hp h tyX7 tyX7_ok nmX7 rfl iX7_renew_X7 (by decide) kX7_renew_29 rfl rfl rfl rfl dX7_renew_62 (fun S_19 H locs h hp => ?_)
      refine lv_iload hx hb dX7_renew_65 (q_at hl 0 rfl) ?_
      exact q_iret C hp hr h dX7_renew_67
theorem kX7_tacet_10 : Cond.fieldLink RX7 10 (TX7 0).1 (TX7 0).2.1 (TX7 0).2.2.1 ∈ wsX7_tacet := by decide +kernel
theorem kX7_tacet_64 : Cond.fieldLinkNest RX7 64 (TX6 1).1 (TX6 1).2.1 (TX6 1).2.2.1 RX7 ∈ q_nest := by decide +kernel
theorem iX7_tacet_X6 : ∀ w ∈ u_ws RX6 TX6 5, w ∈ wsX7_tacet := by decide +kernel
theorem iX7_tacet_X7 : ∀ w ∈ u_ws RX7 TX7 6, w ∈ wsX7_tacet := by decide +kernel
set_option maxHeartbeats 4000000 in
set_option maxRecDepth 100000 in
theorem RX7_tacet (l : Launch) (D : va_G) (g : q_A) (S : q_S) (a0 : Nat) (x1 : Int32) (Q : Int32 → q_S → Prop) (h : wX7_tacet a0 x1 Q S) : q_Mi l yX7_tacet wsX7_tacet rmX7_tacet D g [.ref a0, .int x1] S Q := by
  refine q_Mi.of (cc := cX7_tacet) (nL := 3) (rt := .int) (by decide +kernel) rfl (Nat.le_of_ble_eq_true rfl) rfl ?_
  intro p e s m args below meth c ls A C hr hnm hp hl
  have C : q_X p s m args meth c cX7_tacet 3 RX7 wsX7_tacet D g A := C
  have hx := C.1
  have hb := C.2.1
  have hl : q_l ls 3 [(0, .ref a0), (1, .int x1)] := hl
  unfold wX7_tacet at h
  replace h := h.2
  refine lv_aload_n hx hb dX7_tacet_0 rfl (q_at hl 0 rfl) ?_
  refine q_rGR C hp h rfl iX7_tacet_X7 (by decide) kX7_tacet_10 dX7_tacet_1 (fun r_1 h => ?_)
  refine lv_iload_n hx hb dX7_tacet_4 rfl (q_at hl 1 rfl) ?_
  refine q_finQ0 C hp (q_runV (As := [.int x1]) (rest := []) C hp (RX5_voiceAt l D g _ r_1 x1 _ h _) (cwV 1 C.2.2.2.2.1 gX7_tacet_X5_voiceAt rfl rfl rfl (by decide +kernel) ⟨(Nat.le_of_ble_eq_true rfl), (Nat.le_of_ble_eq_true rfl)⟩) h.1 rfl rfl hl.1.1 rfl (Nat.le_of_ble_eq_true rfl) dX7_tacet_5 ⟨(Nat.le_of_ble_eq_true rfl), (Nat.le_of_ble_eq_true rfl)⟩) rfl rfl (fun o_3 S_2 H locs h hp => ?_)
  refine q_astn (o := o_3) (lv' := [(2, va_rf o_3), (0, .ref a0), (1, .int x1)]) hx hb dX7_tacet_8 rfl hl (by decide) rfl (fun ls hl => ?_)
  refine q_aload_n (o := o_3) hx hb dX7_tacet_9 rfl (q_at hl 0 rfl) ?_
  refine q_ifnonnull (o := o_3) (tgt := 16) hx hb dX7_tacet_10 (by decide) (fun c_5 => ?_) (fun a_4 c_5 => ?_)
  · have hc_5 := h.1 c_5
    have lc_5 := hl
    have pc_5 := hp
    subst c_5
    have h := hc_5
    have hl := lc_5
    have hp := pc_5
    refine lv_bipush (v := (-101)) hx hb dX7_tacet_13 (by decide) ?_
    exact q_iret C hp hr h dX7_tacet_15
  · have hc_5 := h.2 a_4 c_5
    have lc_5 := hl
    have pc_5 := hp
    subst c_5
    have h := hc_5
    have hl := lc_5
    have hp := pc_5
    refine lv_aload_n hx hb dX7_tacet_16 rfl (q_at hl 0 rfl) ?_
    refine q_nGR C hp h rfl iX7_tacet_X6 (by decide) kX7_tacet_64 dX7_tacet_17 (fun r_6 h => ?_)
    refine q_finI0 C hp (q_runV (As := []) (rest := []) C hp (RX3_total l D g _ r_6 _ h _) (cwV 0 C.2.2.2.2.1 gX7_tacet_X3_total rfl rfl rfl (by decide +kernel) ⟨(Nat.le_of_ble_eq_true rfl), (Nat.le_of_ble_eq_true rfl)⟩) h.1 rfl rfl hl.1.1 rfl (Nat.le_of_ble_eq_true rfl) dX7_tacet_20 ⟨(Nat.le_of_ble_eq_true rfl), (Nat.le_of_ble_eq_true rfl)⟩) rfl rfl (fun v_8 S_7 H locs h hp => ?_)
    refine lv_if_ne (tgt := 30) hx hb dX7_tacet_23 (by decide) (fun c_9 => ?_) (fun c_9 => ?_)
    · replace h := h.1 c_9
      refine lv_iconst (v := 0) hx hb dX7_tacet_30 (by decide) ?_
      exact q_iret C hp hr h dX7_tacet_31
    · replace h := h.2 c_9
      refine lv_iconst (v := 1) hx hb dX7_tacet_26 (by decide) ?_
      refine lv_goto (tgt := 31) hx hb dX7_tacet_27 (by decide) ?_
      exact q_iret C hp hr h dX7_tacet_31
theorem kX7_pageCountOf_10 : Cond.fieldLink RX7 10 (TX7 0).1 (TX7 0).2.1 (TX7 0).2.2.1 ∈ wsX7_pageCountOf := by decide +kernel
theorem kX7_pageCountOf_19 : Cond.fieldLink RX7 19 (TX7 1).1 (TX7 1).2.1 (TX7 1).2.2.1 ∈ wsX7_pageCountOf := by decide +kernel
theorem kX7_pageCountOf_33 : Cond.fieldLink RX7 33 (TX7 4).1 (TX7 4).2.1 (TX7 4).2.2.1 ∈ wsX7_pageCountOf := by decide +kernel
theorem kX7_pageCountOf_37 : Cond.fieldLink RX7 37 (TX7 5).1 (TX7 5).2.1 (TX7 5).2.2.1 ∈ wsX7_pageCountOf := by decide +kernel
theorem kX7_pageCountOf_182 : Cond.fieldLinkNest RX7 182 (TX1 3).1 (TX1 3).2.1 (TX1 3).2.2.1 RX7 ∈ q_nest := by decide +kernel
theorem iX7_pageCountOf_X1 : ∀ w ∈ u_ws RX1 TX1 4, w ∈ wsX7_pageCountOf := by decide +kernel
theorem iX7_pageCountOf_X7 : ∀ w ∈ u_ws RX7 TX7 6, w ∈ wsX7_pageCountOf := by decide +kernel
set_option maxHeartbeats 4000000 in
set_option maxRecDepth 100000 in
theorem RX7_pageCountOf (l : Launch) (D : va_G) (g : q_A) (S : q_S) (a0 : Nat) (x1 : Int32) (Q : Int32 → q_S → Prop) (h : wX7_pageCountOf a0 x1 Q S) : q_Mi l yX7_pageCountOf wsX7_pageCountOf rmX7_pageCountOf D g [.ref a0, .int x1] S Q := by
  refine q_Mi.of (cc := cX7_pageCountOf) (nL := 3) (rt := .int) (by decide +kernel) rfl (Nat.le_of_ble_eq_true rfl) rfl ?_
  intro p e s m args below meth c ls A C hr hnm hp hl
  have C : q_X p s m args meth c cX7_pageCountOf 3 RX7 wsX7_pageCountOf D g A := C
  have hx := C.1
  have hb := C.2.1
  have hl : q_l ls 3 [(0, .ref a0), (1, .int x1)] := hl
  unfold wX7_pageCountOf at h
  replace h := h.2
  refine lv_aload_n hx hb dX7_pageCountOf_0 rfl (q_at hl 0 rfl) ?_
  refine q_rGR C hp h rfl iX7_pageCountOf_X7 (by decide) kX7_pageCountOf_10 dX7_pageCountOf_1 (fun r_1 h => ?_)
  refine lv_iload_n hx hb dX7_pageCountOf_4 rfl (q_at hl 1 rfl) ?_
  refine q_finQ0 C hp (q_runV (As := [.int x1]) (rest := []) C hp (RX5_partOf l D g _ r_1 x1 _ h _) (cwV 1 C.2.2.2.2.1 gX7_pageCountOf_X5_partOf rfl rfl rfl (by decide +kernel) ⟨(Nat.le_of_ble_eq_true rfl), (Nat.le_of_ble_eq_true rfl)⟩) h.1 rfl rfl hl.1.1 rfl (Nat.le_of_ble_eq_true rfl) dX7_pageCountOf_5 ⟨(Nat.le_of_ble_eq_true rfl), (Nat.le_of_ble_eq_true rfl)⟩) rfl rfl (fun o_3 S_2 H locs h hp => ?_)
  refine q_astn (o := o_3) (lv' := [(2, va_rf o_3), (0, .ref a0), (1, .int x1)]) hx hb dX7_pageCountOf_8 rfl hl (by decide) rfl (fun ls hl => ?_)
  refine q_aload_n (o := o_3) hx hb dX7_pageCountOf_9 rfl (q_at hl 0 rfl) ?_
  refine q_ifnonnull (o := o_3) (tgt := 15) hx hb dX7_pageCountOf_10 (by decide) (fun c_5 => ?_) (fun a_4 c_5 => ?_)
  · have hc_5 := h.1 c_5
    have lc_5 := hl
    have pc_5 := hp
    subst c_5
    have h := hc_5
    have hl := lc_5
    have hp := pc_5
    refine lv_iconst (v := 0) hx hb dX7_pageCountOf_13 (by decide) ?_
    exact q_iret C hp hr h dX7_pageCountOf_14
  · have hc_5 := h.2 a_4 c_5
    have lc_5 := hl
    have pc_5 := hp
    subst c_5
    have h := hc_5
    have hl := lc_5
    have hp := pc_5
    refine lv_aload_n hx hb dX7_pageCountOf_15 rfl (q_at hl 1 rfl) ?_
    refine q_rGR C hp h rfl iX7_pageCountOf_X7 (by decide) kX7_pageCountOf_19 dX7_pageCountOf_16 (fun r_6 h => ?_)
    refine lv_aload_n hx hb dX7_pageCountOf_19 rfl (q_at hl 0 rfl) ?_
    refine lv_aload_n hx hb dX7_pageCountOf_20 rfl (q_at hl 1 rfl) ?_
    refine q_rGI C hp h rfl iX7_pageCountOf_X7 (by decide) kX7_pageCountOf_33 dX7_pageCountOf_21 (fun v_7 h => ?_)
    refine lv_aload_n hx hb dX7_pageCountOf_24 rfl (q_at hl 1 rfl) ?_
    refine q_rGI C hp h rfl iX7_pageCountOf_X7 (by decide) kX7_pageCountOf_37 dX7_pageCountOf_25 (fun v_8 h => ?_)
    refine q_finV0 C hp (q_runV (As := [.ref a_4, .int v_7, .int v_8]) (rest := []) C hp (RX1_arrange l D g _ r_6 a_4 v_7 v_8 _ h _) (cwV 3 C.2.2.2.2.1 gX7_pageCountOf_X1_arrange rfl rfl rfl (by decide +kernel) ⟨(Nat.le_of_ble_eq_true rfl), (Nat.le_of_ble_eq_true rfl)⟩) h.1 rfl rfl hl.1.1 rfl (Nat.le_of_ble_eq_true rfl) dX7_pageCountOf_28 ⟨(Nat.le_of_ble_eq_true rfl), (Nat.le_of_ble_eq_true rfl)⟩) rfl rfl (fun S_9 H locs h hp => ?_)
    refine lv_aload_n hx hb dX7_pageCountOf_31 rfl (q_at hl 1 rfl) ?_
    refine q_rGR C hp h rfl iX7_pageCountOf_X7 (by decide) kX7_pageCountOf_19 dX7_pageCountOf_32 (fun r_10 h => ?_)
    refine q_nGI C hp h rfl iX7_pageCountOf_X1 (by decide) kX7_pageCountOf_182 dX7_pageCountOf_35 (fun v_11 h => ?_)
    exact q_iret C hp hr h dX7_pageCountOf_38
theorem kX7_lay_33 : Cond.fieldLink RX7 33 (TX7 4).1 (TX7 4).2.1 (TX7 4).2.2.1 ∈ wsX7_lay := by decide +kernel
theorem kX7_lay_37 : Cond.fieldLink RX7 37 (TX7 5).1 (TX7 5).2.1 (TX7 5).2.2.1 ∈ wsX7_lay := by decide +kernel
theorem iX7_lay_X7 : ∀ w ∈ u_ws RX7 TX7 6, w ∈ wsX7_lay := by decide +kernel
set_option maxHeartbeats 4000000 in
set_option maxRecDepth 100000 in
theorem RX7_lay (l : Launch) (D : va_G) (g : q_A) (S : q_S) (a0 : Nat) (x1 : Int32) (x2 : Int32) (Q : Int32 → q_S → Prop) (h : wX7_lay a0 x1 x2 Q S) : q_Mi l yX7_lay wsX7_lay rmX7_lay D g [.ref a0, .int x1, .int x2] S Q := by
  refine q_Mi.of (cc := cX7_lay) (nL := 5) (rt := .int) (by decide +kernel) rfl (Nat.le_of_ble_eq_true rfl) rfl ?_
  intro p e s m args below meth c ls A C hr hnm hp hl
  have C : q_X p s m args meth c cX7_lay 5 RX7 wsX7_lay D g A := C
  have hx := C.1
  have hb := C.2.1
  have hl : q_l ls 5 [(0, .ref a0), (1, .int x1), (2, .int x2)] := hl
  have j39 : ∀ (n : Nat), ∀ (a0 : Nat) (x3 : Int32) (x4 : Int32) (S : q_S) (H : Heap) (locs : List Loc) (ls : Array Slot), lX7_lay_b39 Q n a0 x3 x4 S → q_P D g A s.heap S H locs → q_l ls 5 [(0, .ref a0), (3, .int x3), (4, .int x4)] → W p l e rmX7_lay s m args below meth c H locs 0 0 (MQ below (va_Qi Q (q_B D g A) A) args s rmX7_lay.cells rmX7_lay.slots A) (F0 m 39 ls []) := by
    intro n
    induction n with
    | zero => intro a0 x3 x4 S H locs ls h; exact absurd h (fun h => h)
    | succ n ih39 =>
      intro a0 x3 x4 S H locs ls h hp hl
      have h : wX7_lay_b39 Q (lX7_lay_b39 Q n) a0 x3 x4 S := h
      unfold wX7_lay_b39 at h
      refine lv_iload hx hb dX7_lay_39 (q_at hl 2 rfl) ?_
      refine lv_bipush (v := 6) hx hb dX7_lay_41 (by decide) ?_
      refine lv_icmp_ge (tgt := 61) hx hb dX7_lay_43 (by decide) (fun c_1 => ?_) (fun c_1 => ?_)
      · replace h := h.1 c_1
        refine lv_iload_n hx hb dX7_lay_61 rfl (q_at hl 1 rfl) ?_
        exact q_iret C hp hr h dX7_lay_62
      · replace h := h.2 c_1
        refine lv_iload_n hx hb dX7_lay_46 rfl (q_at hl 1 rfl) ?_
        refine lv_aload_n hx hb dX7_lay_47 rfl (q_at hl 0 rfl) ?_
        refine lv_iload hx hb dX7_lay_48 (q_at hl 2 rfl) ?_
        refine q_finI0 C hp (q_runV (As := [.int x4]) (rest := [.int x3]) C hp (RX7_pageCountOf l D g _ a0 x4 _ h _) (cwV 1 C.2.2.2.2.1 gX7_lay_X7_pageCountOf rfl rfl rfl (by decide +kernel) ⟨(Nat.le_of_ble_eq_true rfl), (Nat.le_of_ble_eq_true rfl)⟩) h.1 rfl rfl hl.1.1 rfl (Nat.le_of_ble_eq_true rfl) dX7_lay_50 ⟨(Nat.le_of_ble_eq_true rfl), (Nat.le_of_ble_eq_true rfl)⟩) rfl rfl (fun v_3 S_2 H locs h hp => ?_)
        refine lv_iadd hx hb dX7_lay_53 ?_
        refine q_istn (lv' := [(3, .int (x3 + v_3)), (0, .ref a0), (4, .int x4)]) hx hb dX7_lay_54 rfl hl (by decide) rfl (fun ls hl => ?_)
        refine q_inc (x := x4) (v := (x4 + (1 : Int32))) (lv' := [(4, .int (x4 + (1 : Int32))), (3, .int (x3 + v_3)), (0, .ref a0)]) hx hb dX7_lay_55 hl (k := 2) rfl rfl (by decide) rfl (fun ls hl => ?_)
        refine lv_goto (tgt := 39) hx hb dX7_lay_58 (by decide) ?_
        exact ih39 a0 (x3 + v_3) (x4 + (1 : Int32)) _ _ _ _ h hp (q_sub hl [2, 1, 0] rfl)
  unfold wX7_lay at h
  replace h := h.2
  refine lv_iload_n hx hb dX7_lay_0 rfl (q_at hl 1 rfl) ?_
  refine lv_bipush (v := 8) hx hb dX7_lay_1 (by decide) ?_
  refine lv_bipush (v := 60) hx hb dX7_lay_3 (by decide) ?_
  refine q_finI0 C hp (q_runS (As := [.int x1, .int (8 : Int32), .int (60 : Int32)]) (rest := []) C hp (RX7_isWithin l D g _ x1 (8 : Int32) (60 : Int32) _ h _) (va_cwS 3 C.2.2.2.2.1 gX7_lay_X7_isWithin rfl rfl rfl (by decide +kernel) ⟨(Nat.le_of_ble_eq_true rfl), (Nat.le_of_ble_eq_true rfl)⟩) rfl hl.1.1 rfl (Nat.le_of_ble_eq_true rfl) dX7_lay_5 ⟨(Nat.le_of_ble_eq_true rfl), (Nat.le_of_ble_eq_true rfl)⟩) rfl rfl (fun v_5 S_4 H locs h hp => ?_)
  refine lv_if_eq (tgt := 21) hx hb dX7_lay_8 (by decide) (fun c_6 => ?_) (fun c_6 => ?_)
  · replace h := h.1 c_6
    refine lv_bipush (v := (-102)) hx hb dX7_lay_21 (by decide) ?_
    exact q_iret C hp hr h dX7_lay_23
  · replace h := h.2 c_6
    refine lv_iload_n hx hb dX7_lay_11 rfl (q_at hl 2 rfl) ?_
    refine lv_iconst (v := 1) hx hb dX7_lay_12 (by decide) ?_
    refine lv_bipush (v := 12) hx hb dX7_lay_13 (by decide) ?_
    refine q_finI0 C hp (q_runS (As := [.int x2, .int (1 : Int32), .int (12 : Int32)]) (rest := []) C hp (RX7_isWithin l D g _ x2 (1 : Int32) (12 : Int32) _ h _) (va_cwS 3 C.2.2.2.2.1 gX7_lay_X7_isWithin rfl rfl rfl (by decide +kernel) ⟨(Nat.le_of_ble_eq_true rfl), (Nat.le_of_ble_eq_true rfl)⟩) rfl hl.1.1 rfl (Nat.le_of_ble_eq_true rfl) dX7_lay_15 ⟨(Nat.le_of_ble_eq_true rfl), (Nat.le_of_ble_eq_true rfl)⟩) rfl rfl (fun v_8 S_7 H locs h hp => ?_)
    refine lv_if_ne (tgt := 24) hx hb dX7_lay_18 (by decide) (fun c_9 => ?_) (fun c_9 => ?_)
    · replace h := h.1 c_9
      refine lv_aload_n hx hb dX7_lay_24 rfl (q_at hl 0 rfl) ?_
      refine lv_iload_n hx hb dX7_lay_25 rfl (q_at hl 1 rfl) ?_
      refine q_rP C hp h tyX7 tyX7_ok nmX7 rfl iX7_lay_X7 (by decide) kX7_lay_33 rfl rfl rfl rfl dX7_lay_26 (fun S_10 H locs h hp => ?_)
      refine lv_aload_n hx hb dX7_lay_29 rfl (q_at hl 0 rfl) ?_
      refine lv_iload_n hx hb dX7_lay_30 rfl (q_at hl 2 rfl) ?_
      refine q_rP C hp h tyX7 tyX7_ok nmX7 rfl iX7_lay_X7 (by decide) kX7_lay_37 rfl rfl rfl rfl dX7_lay_31 (fun S_11 H locs h hp => ?_)
      refine lv_iconst (v := 0) hx hb dX7_lay_34 (by decide) ?_
      refine q_istn (lv' := [(3, .int (0 : Int32)), (0, .ref a0), (1, .int x1), (2, .int x2)]) hx hb dX7_lay_35 rfl hl (by decide) rfl (fun ls hl => ?_)
      refine lv_iconst (v := 0) hx hb dX7_lay_36 (by decide) ?_
      refine q_ist (lv' := [(4, .int (0 : Int32)), (3, .int (0 : Int32)), (0, .ref a0), (1, .int x1), (2, .int x2)]) hx hb dX7_lay_37 hl (by decide) rfl (fun ls hl => ?_)
      exact j39 q_fuel a0 (0 : Int32) (0 : Int32) _ _ _ _ h hp (q_sub hl [2, 1, 0] rfl)
    · replace h := h.2 c_9
      refine lv_bipush (v := (-102)) hx hb dX7_lay_21 (by decide) ?_
      exact q_iret C hp hr h dX7_lay_23
theorem kX7_pages_10 : Cond.fieldLink RX7 10 (TX7 0).1 (TX7 0).2.1 (TX7 0).2.2.1 ∈ wsX7_pages := by decide +kernel
theorem iX7_pages_X7 : ∀ w ∈ u_ws RX7 TX7 6, w ∈ wsX7_pages := by decide +kernel
set_option maxHeartbeats 4000000 in
set_option maxRecDepth 100000 in
theorem RX7_pages (l : Launch) (D : va_G) (g : q_A) (S : q_S) (a0 : Nat) (x1 : Int32) (Q : Int32 → q_S → Prop) (h : wX7_pages a0 x1 Q S) : q_Mi l yX7_pages wsX7_pages rmX7_pages D g [.ref a0, .int x1] S Q := by
  refine q_Mi.of (cc := cX7_pages) (nL := 2) (rt := .int) (by decide +kernel) rfl (Nat.le_of_ble_eq_true rfl) rfl ?_
  intro p e s m args below meth c ls A C hr hnm hp hl
  have C : q_X p s m args meth c cX7_pages 2 RX7 wsX7_pages D g A := C
  have hx := C.1
  have hb := C.2.1
  have hl : q_l ls 2 [(0, .ref a0), (1, .int x1)] := hl
  unfold wX7_pages at h
  replace h := h.2
  refine lv_aload_n hx hb dX7_pages_0 rfl (q_at hl 0 rfl) ?_
  refine q_rGR C hp h rfl iX7_pages_X7 (by decide) kX7_pages_10 dX7_pages_1 (fun r_1 h => ?_)
  refine lv_iload_n hx hb dX7_pages_4 rfl (q_at hl 1 rfl) ?_
  refine q_finQ0 C hp (q_runV (As := [.int x1]) (rest := []) C hp (RX5_partOf l D g _ r_1 x1 _ h _) (cwV 1 C.2.2.2.2.1 gX7_pages_X5_partOf rfl rfl rfl (by decide +kernel) ⟨(Nat.le_of_ble_eq_true rfl), (Nat.le_of_ble_eq_true rfl)⟩) h.1 rfl rfl hl.1.1 rfl (Nat.le_of_ble_eq_true rfl) dX7_pages_5 ⟨(Nat.le_of_ble_eq_true rfl), (Nat.le_of_ble_eq_true rfl)⟩) rfl rfl (fun o_3 S_2 H locs h hp => ?_)
  refine q_ifnonnull (o := o_3) (tgt := 14) hx hb dX7_pages_8 (by decide) (fun c_5 => ?_) (fun a_4 c_5 => ?_)
  · have hc_5 := h.1 c_5
    have lc_5 := hl
    have pc_5 := hp
    subst c_5
    have h := hc_5
    have hl := lc_5
    have hp := pc_5
    refine lv_bipush (v := (-101)) hx hb dX7_pages_11 (by decide) ?_
    exact q_iret C hp hr h dX7_pages_13
  · have hc_5 := h.2 a_4 c_5
    have lc_5 := hl
    have pc_5 := hp
    subst c_5
    have h := hc_5
    have hl := lc_5
    have hp := pc_5
    refine lv_aload_n hx hb dX7_pages_14 rfl (q_at hl 0 rfl) ?_
    refine lv_iload_n hx hb dX7_pages_15 rfl (q_at hl 1 rfl) ?_
    refine q_finI0 C hp (q_runV (As := [.int x1]) (rest := []) C hp (RX7_pageCountOf l D g _ a0 x1 _ h _) (cwV 1 C.2.2.2.2.1 gX7_pages_X7_pageCountOf rfl rfl rfl (by decide +kernel) ⟨(Nat.le_of_ble_eq_true rfl), (Nat.le_of_ble_eq_true rfl)⟩) h.1 rfl rfl hl.1.1 rfl (Nat.le_of_ble_eq_true rfl) dX7_pages_16 ⟨(Nat.le_of_ble_eq_true rfl), (Nat.le_of_ble_eq_true rfl)⟩) rfl rfl (fun v_7 S_6 H locs h hp => ?_)
    exact q_iret C hp hr h dX7_pages_19

set_option maxHeartbeats 4000000 in
set_option maxRecDepth 100000 in
theorem RX7_nextOdd (l : Launch) (D : va_G) (g : q_A) (S : q_S) (x0 : Int32) (Q : Int32 → q_S → Prop) (h : wX7_nextOdd x0 Q S) : q_Mi l yX7_nextOdd wsX7_nextOdd rmX7_nextOdd D g [.int x0] S Q := by
  refine q_Mi.of (cc := cX7_nextOdd) (nL := 1) (rt := .int) (by decide +kernel) rfl (Nat.le_of_ble_eq_true rfl) rfl ?_
  intro p e s m args below meth c ls A C hr hnm hp hl
  have C : q_X p s m args meth c cX7_nextOdd 1 RX7 wsX7_nextOdd D g A := C
  have hx := C.1
  have hb := C.2.1
  have hl : q_l ls 1 [(0, .int x0)] := hl
  unfold wX7_nextOdd at h
  refine lv_iload_n hx hb dX7_nextOdd_0 rfl (q_at hl 0 rfl) ?_
  refine lv_iconst (v := 1) hx hb dX7_nextOdd_1 (by decide) ?_
  refine lv_iadd hx hb dX7_nextOdd_2 ?_
  refine lv_iload_n hx hb dX7_nextOdd_3 rfl (q_at hl 0 rfl) ?_
  refine lv_iconst (v := 1) hx hb dX7_nextOdd_4 (by decide) ?_
  refine lv_iand hx hb dX7_nextOdd_5 ?_
  refine lv_iadd hx hb dX7_nextOdd_6 ?_
  exact q_iret C hp hr h dX7_nextOdd_7

set_option maxHeartbeats 4000000 in
set_option maxRecDepth 100000 in
theorem RX7_lastNumberAhead (l : Launch) (D : va_G) (g : q_A) (S : q_S) (a0 : Nat) (x1 : Int32) (Q : Int32 → q_S → Prop) (h : wX7_lastNumberAhead a0 x1 Q S) : q_Mi l yX7_lastNumberAhead wsX7_lastNumberAhead rmX7_lastNumberAhead D g [.ref a0, .int x1] S Q := by
  refine q_Mi.of (cc := cX7_lastNumberAhead) (nL := 5) (rt := .int) (by decide +kernel) rfl (Nat.le_of_ble_eq_true rfl) rfl ?_
  intro p e s m args below meth c ls A C hr hnm hp hl
  have C : q_X p s m args meth c cX7_lastNumberAhead 5 RX7 wsX7_lastNumberAhead D g A := C
  have hx := C.1
  have hb := C.2.1
  have hl : q_l ls 5 [(0, .ref a0), (1, .int x1)] := hl
  have j37 : ∀ (k4 : Nat → Int32 → Int32 → Int32 → q_S → Prop) (ih4 : ∀ (a0 : Nat) (x1 : Int32) (x2 : Int32) (x3 : Int32) (S : q_S) (H : Heap) (locs : List Loc) (ls : Array Slot), k4 a0 x1 x2 x3 S → q_P D g A s.heap S H locs → q_l ls 5 [(0, .ref a0), (1, .int x1), (2, .int x2), (3, .int x3)] → W p l e rmX7_lastNumberAhead s m args below meth c H locs 0 0 (MQ below (va_Qi Q (q_B D g A) A) args s rmX7_lastNumberAhead.cells rmX7_lastNumberAhead.slots A) (F0 m 4 ls [])) (a0 : Nat) (x1 : Int32) (x2 : Int32) (x3 : Int32) (S : q_S) (H : Heap) (locs : List Loc) (ls : Array Slot), wX7_lastNumberAhead_b37 Q k4 a0 x1 x2 x3 S → q_P D g A s.heap S H locs → q_l ls 5 [(0, .ref a0), (1, .int x1), (2, .int x2), (3, .int x3)] → W p l e rmX7_lastNumberAhead s m args below meth c H locs 0 0 (MQ below (va_Qi Q (q_B D g A) A) args s rmX7_lastNumberAhead.cells rmX7_lastNumberAhead.slots A) (F0 m 37 ls []) := by
    intro k4 ih4 a0 x1 x2 x3 S H locs ls h hp hl
    unfold wX7_lastNumberAhead_b37 at h
    refine q_inc (x := x3) (v := (x3 + (1 : Int32))) (lv' := [(3, .int (x3 + (1 : Int32))), (0, .ref a0), (1, .int x1), (2, .int x2)]) hx hb dX7_lastNumberAhead_37 hl (k := 3) rfl rfl (by decide) rfl (fun ls hl => ?_)
    refine lv_goto (tgt := 4) hx hb dX7_lastNumberAhead_40 (by decide) ?_
    exact ih4 a0 x1 x2 (x3 + (1 : Int32)) _ _ _ _ h hp (q_sub hl [1, 2, 3, 0] rfl)
  have j4 : ∀ (n : Nat), ∀ (a0 : Nat) (x1 : Int32) (x2 : Int32) (x3 : Int32) (S : q_S) (H : Heap) (locs : List Loc) (ls : Array Slot), lX7_lastNumberAhead_b4 Q n a0 x1 x2 x3 S → q_P D g A s.heap S H locs → q_l ls 5 [(0, .ref a0), (1, .int x1), (2, .int x2), (3, .int x3)] → W p l e rmX7_lastNumberAhead s m args below meth c H locs 0 0 (MQ below (va_Qi Q (q_B D g A) A) args s rmX7_lastNumberAhead.cells rmX7_lastNumberAhead.slots A) (F0 m 4 ls []) := by
    intro n
    induction n with
    | zero => intro a0 x1 x2 x3 S H locs ls h; exact absurd h (fun h => h)
    | succ n ih4 =>
      intro a0 x1 x2 x3 S H locs ls h hp hl
      have h : wX7_lastNumberAhead_b4 Q (lX7_lastNumberAhead_b4 Q n) a0 x1 x2 x3 S := h
      unfold wX7_lastNumberAhead_b4 at h
      refine lv_iload_n hx hb dX7_lastNumberAhead_4 rfl (q_at hl 3 rfl) ?_
      refine lv_iload_n hx hb dX7_lastNumberAhead_5 rfl (q_at hl 1 rfl) ?_
      refine lv_icmp_ge (tgt := 43) hx hb dX7_lastNumberAhead_6 (by decide) (fun c_1 => ?_) (fun c_1 => ?_)
      · replace h := h.1 c_1
        refine lv_iload_n hx hb dX7_lastNumberAhead_43 rfl (q_at hl 2 rfl) ?_
        exact q_iret C hp hr h dX7_lastNumberAhead_44
      · replace h := h.2 c_1
        refine lv_iload_n hx hb dX7_lastNumberAhead_9 rfl (q_at hl 3 rfl) ?_
        refine lv_bipush (v := 6) hx hb dX7_lastNumberAhead_10 (by decide) ?_
        refine lv_icmp_ge (tgt := 43) hx hb dX7_lastNumberAhead_12 (by decide) (fun c_2 => ?_) (fun c_2 => ?_)
        · replace h := h.1 c_2
          refine lv_iload_n hx hb dX7_lastNumberAhead_43 rfl (q_at hl 2 rfl) ?_
          exact q_iret C hp hr h dX7_lastNumberAhead_44
        · replace h := h.2 c_2
          refine lv_aload_n hx hb dX7_lastNumberAhead_15 rfl (q_at hl 0 rfl) ?_
          refine lv_iload_n hx hb dX7_lastNumberAhead_16 rfl (q_at hl 3 rfl) ?_
          refine q_finI0 C hp (q_runV (As := [.int x3]) (rest := []) C hp (RX7_pageCountOf l D g _ a0 x3 _ h _) (cwV 1 C.2.2.2.2.1 gX7_lastNumberAhead_X7_pageCountOf rfl rfl rfl (by decide +kernel) ⟨(Nat.le_of_ble_eq_true rfl), (Nat.le_of_ble_eq_true rfl)⟩) h.1 rfl rfl hl.1.1 rfl (Nat.le_of_ble_eq_true rfl) dX7_lastNumberAhead_17 ⟨(Nat.le_of_ble_eq_true rfl), (Nat.le_of_ble_eq_true rfl)⟩) rfl rfl (fun v_4 S_3 H locs h hp => ?_)
          refine q_ist (lv' := [(4, .int v_4), (0, .ref a0), (1, .int x1), (2, .int x2), (3, .int x3)]) hx hb dX7_lastNumberAhead_20 hl (by decide) rfl (fun ls hl => ?_)
          refine lv_iload hx hb dX7_lastNumberAhead_22 (q_at hl 0 rfl) ?_
          refine lv_if_le (tgt := 37) hx hb dX7_lastNumberAhead_24 (by decide) (fun c_5 => ?_) (fun c_5 => ?_)
          · replace h := h.1 c_5
            exact j37 (lX7_lastNumberAhead_b4 Q n) ih4 a0 x1 x2 x3 _ _ _ _ h hp (q_sub hl [1, 2, 3, 4] rfl)
          · replace h := h.2 c_5
            refine lv_iload_n hx hb dX7_lastNumberAhead_27 rfl (q_at hl 3 rfl) ?_
            refine q_finI0 C hp (q_runS (As := [.int x2]) (rest := []) C hp (RX7_nextOdd l D g _ x2 _ h _) (va_cwS 1 C.2.2.2.2.1 gX7_lastNumberAhead_X7_nextOdd rfl rfl rfl (by decide +kernel) ⟨(Nat.le_of_ble_eq_true rfl), (Nat.le_of_ble_eq_true rfl)⟩) rfl hl.1.1 rfl (Nat.le_of_ble_eq_true rfl) dX7_lastNumberAhead_28 ⟨(Nat.le_of_ble_eq_true rfl), (Nat.le_of_ble_eq_true rfl)⟩) rfl rfl (fun v_7 S_6 H locs h hp => ?_)
            refine lv_iload hx hb dX7_lastNumberAhead_31 (q_at hl 0 rfl) ?_
            refine lv_iadd hx hb dX7_lastNumberAhead_33 ?_
            refine lv_iconst (v := 1) hx hb dX7_lastNumberAhead_34 (by decide) ?_
            refine lv_isub hx hb dX7_lastNumberAhead_35 ?_
            refine q_istn (lv' := [(2, .int ((v_7 + v_4) - (1 : Int32))), (4, .int v_4), (0, .ref a0), (1, .int x1), (3, .int x3)]) hx hb dX7_lastNumberAhead_36 rfl hl (by decide) rfl (fun ls hl => ?_)
            exact j37 (lX7_lastNumberAhead_b4 Q n) ih4 a0 x1 ((v_7 + v_4) - (1 : Int32)) x3 _ _ _ _ h hp (q_sub hl [2, 3, 0, 4] rfl)
  unfold wX7_lastNumberAhead at h
  replace h := h.2
  refine lv_iconst (v := 0) hx hb dX7_lastNumberAhead_0 (by decide) ?_
  refine q_istn (lv' := [(2, .int (0 : Int32)), (0, .ref a0), (1, .int x1)]) hx hb dX7_lastNumberAhead_1 rfl hl (by decide) rfl (fun ls hl => ?_)
  refine lv_iconst (v := 0) hx hb dX7_lastNumberAhead_2 (by decide) ?_
  refine q_istn (lv' := [(3, .int (0 : Int32)), (2, .int (0 : Int32)), (0, .ref a0), (1, .int x1)]) hx hb dX7_lastNumberAhead_3 rfl hl (by decide) rfl (fun ls hl => ?_)
  exact j4 q_fuel a0 x1 (0 : Int32) (0 : Int32) _ _ _ _ h hp (q_sub hl [2, 3, 1, 0] rfl)
theorem kX7_page_10 : Cond.fieldLink RX7 10 (TX7 0).1 (TX7 0).2.1 (TX7 0).2.2.1 ∈ wsX7_page := by decide +kernel
theorem kX7_page_19 : Cond.fieldLink RX7 19 (TX7 1).1 (TX7 1).2.1 (TX7 1).2.2.1 ∈ wsX7_page := by decide +kernel
theorem iX7_page_X7 : ∀ w ∈ u_ws RX7 TX7 6, w ∈ wsX7_page := by decide +kernel
set_option maxHeartbeats 4000000 in
set_option maxRecDepth 100000 in
theorem RX7_page (l : Launch) (D : va_G) (g : q_A) (S : q_S) (a0 : Nat) (x1 : Int32) (x2 : Int32) (x3 : Int32) (Q : Int32 → q_S → Prop) (h : wX7_page a0 x1 x2 x3 Q S) : q_Mi l yX7_page wsX7_page rmX7_page D g [.ref a0, .int x1, .int x2, .int x3] S Q := by
  refine q_Mi.of (cc := cX7_page) (nL := 4) (rt := .int) (by decide +kernel) rfl (Nat.le_of_ble_eq_true rfl) rfl ?_
  intro p e s m args below meth c ls A C hr hnm hp hl
  have C : q_X p s m args meth c cX7_page 4 RX7 wsX7_page D g A := C
  have hx := C.1
  have hb := C.2.1
  have hl : q_l ls 4 [(0, .ref a0), (1, .int x1), (2, .int x2), (3, .int x3)] := hl
  unfold wX7_page at h
  replace h := h.2
  refine lv_aload_n hx hb dX7_page_0 rfl (q_at hl 0 rfl) ?_
  refine q_rGR C hp h rfl iX7_page_X7 (by decide) kX7_page_10 dX7_page_1 (fun r_1 h => ?_)
  refine lv_iload_n hx hb dX7_page_4 rfl (q_at hl 1 rfl) ?_
  refine q_finQ0 C hp (q_runV (As := [.int x1]) (rest := []) C hp (RX5_partOf l D g _ r_1 x1 _ h _) (cwV 1 C.2.2.2.2.1 gX7_page_X5_partOf rfl rfl rfl (by decide +kernel) ⟨(Nat.le_of_ble_eq_true rfl), (Nat.le_of_ble_eq_true rfl)⟩) h.1 rfl rfl hl.1.1 rfl (Nat.le_of_ble_eq_true rfl) dX7_page_5 ⟨(Nat.le_of_ble_eq_true rfl), (Nat.le_of_ble_eq_true rfl)⟩) rfl rfl (fun o_3 S_2 H locs h hp => ?_)
  refine q_ifnull (o := o_3) (tgt := 26) hx hb dX7_page_8 (by decide) (fun c_5 => ?_) (fun a_4 c_5 => ?_)
  · have hc_5 := h.1 c_5
    have lc_5 := hl
    have pc_5 := hp
    subst c_5
    have h := hc_5
    have hl := lc_5
    have hp := pc_5
    refine lv_bipush (v := (-101)) hx hb dX7_page_26 (by decide) ?_
    exact q_iret C hp hr h dX7_page_28
  · have hc_5 := h.2 a_4 c_5
    have lc_5 := hl
    have pc_5 := hp
    subst c_5
    have h := hc_5
    have hl := lc_5
    have hp := pc_5
    refine lv_iload_n hx hb dX7_page_11 rfl (q_at hl 2 rfl) ?_
    refine lv_iconst (v := 0) hx hb dX7_page_12 (by decide) ?_
    refine lv_aload_n hx hb dX7_page_13 rfl (q_at hl 0 rfl) ?_
    refine lv_iload_n hx hb dX7_page_14 rfl (q_at hl 1 rfl) ?_
    refine q_finI0 C hp (q_runV (As := [.int x1]) (rest := [.int (0 : Int32), .int x2]) C hp (RX7_pageCountOf l D g _ a0 x1 _ h _) (cwV 1 C.2.2.2.2.1 gX7_page_X7_pageCountOf rfl rfl rfl (by decide +kernel) ⟨(Nat.le_of_ble_eq_true rfl), (Nat.le_of_ble_eq_true rfl)⟩) h.1 rfl rfl hl.1.1 rfl (Nat.le_of_ble_eq_true rfl) dX7_page_15 ⟨(Nat.le_of_ble_eq_true rfl), (Nat.le_of_ble_eq_true rfl)⟩) rfl rfl (fun v_7 S_6 H locs h hp => ?_)
    refine lv_iconst (v := 1) hx hb dX7_page_18 (by decide) ?_
    refine lv_isub hx hb dX7_page_19 ?_
    refine q_finI0 C hp (q_runS (As := [.int x2, .int (0 : Int32), .int (v_7 - (1 : Int32))]) (rest := []) C hp (RX7_isWithin l D g _ x2 (0 : Int32) (v_7 - (1 : Int32)) _ h _) (va_cwS 3 C.2.2.2.2.1 gX7_page_X7_isWithin rfl rfl rfl (by decide +kernel) ⟨(Nat.le_of_ble_eq_true rfl), (Nat.le_of_ble_eq_true rfl)⟩) rfl hl.1.1 rfl (Nat.le_of_ble_eq_true rfl) dX7_page_20 ⟨(Nat.le_of_ble_eq_true rfl), (Nat.le_of_ble_eq_true rfl)⟩) rfl rfl (fun v_9 S_8 H locs h hp => ?_)
    refine lv_if_ne (tgt := 29) hx hb dX7_page_23 (by decide) (fun c_10 => ?_) (fun c_10 => ?_)
    · replace h := h.1 c_10
      refine lv_iload_n hx hb dX7_page_29 rfl (q_at hl 3 rfl) ?_
      refine lv_iconst (v := 0) hx hb dX7_page_30 (by decide) ?_
      refine lv_iconst (v := 4) hx hb dX7_page_31 (by decide) ?_
      refine q_finI0 C hp (q_runS (As := [.int x3, .int (0 : Int32), .int (4 : Int32)]) (rest := []) C hp (RX7_isWithin l D g _ x3 (0 : Int32) (4 : Int32) _ h _) (va_cwS 3 C.2.2.2.2.1 gX7_page_X7_isWithin rfl rfl rfl (by decide +kernel) ⟨(Nat.le_of_ble_eq_true rfl), (Nat.le_of_ble_eq_true rfl)⟩) rfl hl.1.1 rfl (Nat.le_of_ble_eq_true rfl) dX7_page_32 ⟨(Nat.le_of_ble_eq_true rfl), (Nat.le_of_ble_eq_true rfl)⟩) rfl rfl (fun v_12 S_11 H locs h hp => ?_)
      refine lv_if_ne (tgt := 41) hx hb dX7_page_35 (by decide) (fun c_13 => ?_) (fun c_13 => ?_)
      · replace h := h.1 c_13
        refine lv_iload_n hx hb dX7_page_41 rfl (q_at hl 3 rfl) ?_
        refine lv_iconst (v := 4) hx hb dX7_page_42 (by decide) ?_
        refine lv_icmp_ne (tgt := 57) hx hb dX7_page_43 (by decide) (fun c_14 => ?_) (fun c_14 => ?_)
        · replace h := h.1 c_14
          refine lv_aload_n hx hb dX7_page_57 rfl (q_at hl 0 rfl) ?_
          refine q_rGR C hp h rfl iX7_page_X7 (by decide) kX7_page_19 dX7_page_58 (fun r_15 h => ?_)
          refine lv_iload_n hx hb dX7_page_61 rfl (q_at hl 2 rfl) ?_
          refine lv_iload_n hx hb dX7_page_62 rfl (q_at hl 3 rfl) ?_
          refine q_finI0 C hp (q_runV (As := [.int x2, .int x3]) (rest := []) C hp (RX1_figure l D g _ r_15 x2 x3 _ h _) (cwV 2 C.2.2.2.2.1 gX7_page_X1_figure rfl rfl rfl (by decide +kernel) ⟨(Nat.le_of_ble_eq_true rfl), (Nat.le_of_ble_eq_true rfl)⟩) h.1 rfl rfl hl.1.1 rfl (Nat.le_of_ble_eq_true rfl) dX7_page_63 ⟨(Nat.le_of_ble_eq_true rfl), (Nat.le_of_ble_eq_true rfl)⟩) rfl rfl (fun v_17 S_16 H locs h hp => ?_)
          exact q_iret C hp hr h dX7_page_66
        · replace h := h.2 c_14
          refine lv_aload_n hx hb dX7_page_46 rfl (q_at hl 0 rfl) ?_
          refine lv_iload_n hx hb dX7_page_47 rfl (q_at hl 1 rfl) ?_
          refine q_finI0 C hp (q_runV (As := [.int x1]) (rest := []) C hp (RX7_lastNumberAhead l D g _ a0 x1 _ h _) (cwV 1 C.2.2.2.2.1 gX7_page_X7_lastNumberAhead rfl rfl rfl (by decide +kernel) ⟨(Nat.le_of_ble_eq_true rfl), (Nat.le_of_ble_eq_true rfl)⟩) h.1 rfl rfl hl.1.1 rfl (Nat.le_of_ble_eq_true rfl) dX7_page_48 ⟨(Nat.le_of_ble_eq_true rfl), (Nat.le_of_ble_eq_true rfl)⟩) rfl rfl (fun v_19 S_18 H locs h hp => ?_)
          refine q_finI0 C hp (q_runS (As := [.int v_19]) (rest := []) C hp (RX7_nextOdd l D g _ v_19 _ h _) (va_cwS 1 C.2.2.2.2.1 gX7_page_X7_nextOdd rfl rfl rfl (by decide +kernel) ⟨(Nat.le_of_ble_eq_true rfl), (Nat.le_of_ble_eq_true rfl)⟩) rfl hl.1.1 rfl (Nat.le_of_ble_eq_true rfl) dX7_page_51 ⟨(Nat.le_of_ble_eq_true rfl), (Nat.le_of_ble_eq_true rfl)⟩) rfl rfl (fun v_21 S_20 H locs h hp => ?_)
          refine lv_iload_n hx hb dX7_page_54 rfl (q_at hl 2 rfl) ?_
          refine lv_iadd hx hb dX7_page_55 ?_
          exact q_iret C hp hr h dX7_page_56
      · replace h := h.2 c_13
        refine lv_bipush (v := (-102)) hx hb dX7_page_38 (by decide) ?_
        exact q_iret C hp hr h dX7_page_40
    · replace h := h.2 c_10
      refine lv_bipush (v := (-101)) hx hb dX7_page_26 (by decide) ?_
      exact q_iret C hp hr h dX7_page_28

set_option maxHeartbeats 4000000 in
set_option maxRecDepth 100000 in
theorem RX7_condense (l : Launch) (D : va_G) (g : q_A) (S : q_S) (a0 : Nat) (a1 : Nat) (x2 : Int32) (Q : Int32 → q_S → Prop) (h : wX7_condense a0 a1 x2 Q S) : q_Mi l yX7_condense wsX7_condense rmX7_condense D g [.ref a0, .ref a1, .int x2] S Q := by
  refine q_Mi.of (cc := cX7_condense) (nL := 5) (rt := .int) (by decide +kernel) rfl (Nat.le_of_ble_eq_true rfl) rfl ?_
  intro p e s m args below meth c ls A C hr hnm hp hl
  have C : q_X p s m args meth c cX7_condense 5 RX7 wsX7_condense D g A := C
  have hx := C.1
  have hb := C.2.1
  have hl : q_l ls 5 [(0, .ref a0), (1, .ref a1), (2, .int x2)] := hl
  have j40 : ∀ (a0 : Nat) (a1 : Nat) (x2 : Int32) (x3 : Int32) (x4 : Int32) (S : q_S) (H : Heap) (locs : List Loc) (ls : Array Slot), wX7_condense_b40 Q a0 a1 x2 x3 x4 S → q_P D g A s.heap S H locs → q_l ls 5 [(0, .ref a0), (1, .ref a1), (2, .int x2), (3, .int x3), (4, .int x4)] → W p l e rmX7_condense s m args below meth c H locs 0 0 (MQ below (va_Qi Q (q_B D g A) A) args s rmX7_condense.cells rmX7_condense.slots A) (F0 m 40 ls []) := by
    intro a0 a1 x2 x3 x4 S H locs ls h hp hl
    unfold wX7_condense_b40 at h
    refine lv_iload hx hb dX7_condense_40 (q_at hl 4 rfl) ?_
    refine lv_if_eq (tgt := 47) hx hb dX7_condense_42 (by decide) (fun c_1 => ?_) (fun c_1 => ?_)
    · replace h := h.1 c_1
      refine lv_iload_n hx hb dX7_condense_47 rfl (q_at hl 3 rfl) ?_
      refine lv_if_eq (tgt := 53) hx hb dX7_condense_48 (by decide) (fun c_2 => ?_) (fun c_2 => ?_)
      · replace h := h.1 c_2
        refine lv_aload_n hx hb dX7_condense_53 rfl (q_at hl 0 rfl) ?_
        refine lv_aload_n hx hb dX7_condense_54 rfl (q_at hl 1 rfl) ?_
        refine lv_iload_n hx hb dX7_condense_55 rfl (q_at hl 2 rfl) ?_
        refine q_finI0 C hp (q_runV (As := [.ref a1, .int x2]) (rest := []) C hp (RX3_isAlike l D g _ a0 a1 x2 _ h _) (cwV 2 C.2.2.2.2.1 gX7_condense_X3_isAlike rfl rfl rfl (by decide +kernel) ⟨(Nat.le_of_ble_eq_true rfl), (Nat.le_of_ble_eq_true rfl)⟩) h.1 rfl rfl hl.1.1 rfl (Nat.le_of_ble_eq_true rfl) dX7_condense_56 ⟨(Nat.le_of_ble_eq_true rfl), (Nat.le_of_ble_eq_true rfl)⟩) rfl rfl (fun v_4 S_3 H locs h hp => ?_)
        refine lv_if_eq (tgt := 64) hx hb dX7_condense_59 (by decide) (fun c_5 => ?_) (fun c_5 => ?_)
        · replace h := h.1 c_5
          refine lv_aload_n hx hb dX7_condense_64 rfl (q_at hl 0 rfl) ?_
          refine lv_aload_n hx hb dX7_condense_65 rfl (q_at hl 1 rfl) ?_
          refine lv_iload_n hx hb dX7_condense_66 rfl (q_at hl 2 rfl) ?_
          refine q_finI0 C hp (q_runV (As := [.ref a1, .int x2]) (rest := []) C hp (RX3_hasRhythmIn l D g _ a0 a1 x2 _ h _) (cwV 2 C.2.2.2.2.1 gX7_condense_X3_hasRhythmIn rfl rfl rfl (by decide +kernel) ⟨(Nat.le_of_ble_eq_true rfl), (Nat.le_of_ble_eq_true rfl)⟩) h.1 rfl rfl hl.1.1 rfl (Nat.le_of_ble_eq_true rfl) dX7_condense_67 ⟨(Nat.le_of_ble_eq_true rfl), (Nat.le_of_ble_eq_true rfl)⟩) rfl rfl (fun v_7 S_6 H locs h hp => ?_)
          refine lv_if_eq (tgt := 86) hx hb dX7_condense_70 (by decide) (fun c_8 => ?_) (fun c_8 => ?_)
          · replace h := h.1 c_8
            refine lv_iconst (v := 5) hx hb dX7_condense_86 (by decide) ?_
            exact q_iret C hp hr h dX7_condense_87
          · replace h := h.2 c_8
            refine lv_aload_n hx hb dX7_condense_73 rfl (q_at hl 1 rfl) ?_
            refine lv_aload_n hx hb dX7_condense_74 rfl (q_at hl 0 rfl) ?_
            refine lv_iload_n hx hb dX7_condense_75 rfl (q_at hl 2 rfl) ?_
            refine q_finI0 C hp (q_runV (As := [.ref a0, .int x2]) (rest := []) C hp (RX3_hasRhythmIn l D g _ a1 a0 x2 _ h _) (cwV 2 C.2.2.2.2.1 gX7_condense_X3_hasRhythmIn rfl rfl rfl (by decide +kernel) ⟨(Nat.le_of_ble_eq_true rfl), (Nat.le_of_ble_eq_true rfl)⟩) h.1 rfl rfl hl.1.1 rfl (Nat.le_of_ble_eq_true rfl) dX7_condense_76 ⟨(Nat.le_of_ble_eq_true rfl), (Nat.le_of_ble_eq_true rfl)⟩) rfl rfl (fun v_10 S_9 H locs h hp => ?_)
            refine lv_if_eq (tgt := 86) hx hb dX7_condense_79 (by decide) (fun c_11 => ?_) (fun c_11 => ?_)
            · replace h := h.1 c_11
              refine lv_iconst (v := 5) hx hb dX7_condense_86 (by decide) ?_
              exact q_iret C hp hr h dX7_condense_87
            · replace h := h.2 c_11
              refine lv_iconst (v := 2) hx hb dX7_condense_82 (by decide) ?_
              refine lv_goto (tgt := 87) hx hb dX7_condense_83 (by decide) ?_
              exact q_iret C hp hr h dX7_condense_87
        · replace h := h.2 c_5
          refine lv_iconst (v := 1) hx hb dX7_condense_62 (by decide) ?_
          exact q_iret C hp hr h dX7_condense_63
      · replace h := h.2 c_2
        refine lv_iconst (v := 4) hx hb dX7_condense_51 (by decide) ?_
        exact q_iret C hp hr h dX7_condense_52
    · replace h := h.2 c_1
      refine lv_iconst (v := 3) hx hb dX7_condense_45 (by decide) ?_
      exact q_iret C hp hr h dX7_condense_46
  have j27 : ∀ (a0 : Nat) (a1 : Nat) (x2 : Int32) (x3 : Int32) (y0 : Int32) (S : q_S) (H : Heap) (locs : List Loc) (ls : Array Slot), wX7_condense_b27 Q a0 a1 x2 x3 y0 S → q_P D g A s.heap S H locs → q_l ls 5 [(0, .ref a0), (1, .ref a1), (2, .int x2), (3, .int x3)] → W p l e rmX7_condense s m args below meth c H locs 0 0 (MQ below (va_Qi Q (q_B D g A) A) args s rmX7_condense.cells rmX7_condense.slots A) (F0 m 27 ls [.int y0]) := by
    intro a0 a1 x2 x3 y0 S H locs ls h hp hl
    unfold wX7_condense_b27 at h
    refine q_ist (lv' := [(4, .int y0), (0, .ref a0), (1, .ref a1), (2, .int x2), (3, .int x3)]) hx hb dX7_condense_27 hl (by decide) rfl (fun ls hl => ?_)
    refine lv_iload_n hx hb dX7_condense_29 rfl (q_at hl 4 rfl) ?_
    refine lv_if_eq (tgt := 40) hx hb dX7_condense_30 (by decide) (fun c_12 => ?_) (fun c_12 => ?_)
    · replace h := h.1 c_12
      exact j40 a0 a1 x2 x3 y0 _ _ _ _ h hp (q_sub hl [1, 2, 3, 4, 0] rfl)
    · replace h := h.2 c_12
      refine lv_iload hx hb dX7_condense_33 (q_at hl 0 rfl) ?_
      refine lv_if_eq (tgt := 40) hx hb dX7_condense_35 (by decide) (fun c_13 => ?_) (fun c_13 => ?_)
      · replace h := h.1 c_13
        exact j40 a0 a1 x2 x3 y0 _ _ _ _ h hp (q_sub hl [1, 2, 3, 4, 0] rfl)
      · replace h := h.2 c_13
        refine lv_iconst (v := 0) hx hb dX7_condense_38 (by decide) ?_
        exact q_iret C hp hr h dX7_condense_39
  have j13 : ∀ (a0 : Nat) (a1 : Nat) (x2 : Int32) (y0 : Int32) (S : q_S) (H : Heap) (locs : List Loc) (ls : Array Slot), wX7_condense_b13 Q a0 a1 x2 y0 S → q_P D g A s.heap S H locs → q_l ls 5 [(0, .ref a0), (1, .ref a1), (2, .int x2)] → W p l e rmX7_condense s m args below meth c H locs 0 0 (MQ below (va_Qi Q (q_B D g A) A) args s rmX7_condense.cells rmX7_condense.slots A) (F0 m 13 ls [.int y0]) := by
    intro a0 a1 x2 y0 S H locs ls h hp hl
    unfold wX7_condense_b13 at h
    refine q_istn (lv' := [(3, .int y0), (0, .ref a0), (1, .ref a1), (2, .int x2)]) hx hb dX7_condense_13 rfl hl (by decide) rfl (fun ls hl => ?_)
    refine lv_aload_n hx hb dX7_condense_14 rfl (q_at hl 2 rfl) ?_
    refine lv_iload_n hx hb dX7_condense_15 rfl (q_at hl 3 rfl) ?_
    refine q_finI0 C hp (q_runV (As := [.int x2]) (rest := []) C hp (RX3_size l D g _ a1 x2 _ h _) (cwV 1 C.2.2.2.2.1 gX7_condense_X3_size rfl rfl rfl (by decide +kernel) ⟨(Nat.le_of_ble_eq_true rfl), (Nat.le_of_ble_eq_true rfl)⟩) h.1 rfl rfl hl.1.1 rfl (Nat.le_of_ble_eq_true rfl) dX7_condense_16 ⟨(Nat.le_of_ble_eq_true rfl), (Nat.le_of_ble_eq_true rfl)⟩) rfl rfl (fun v_15 S_14 H locs h hp => ?_)
    refine lv_if_ne (tgt := 26) hx hb dX7_condense_19 (by decide) (fun c_16 => ?_) (fun c_16 => ?_)
    · replace h := h.1 c_16
      refine lv_iconst (v := 0) hx hb dX7_condense_26 (by decide) ?_
      exact j27 a0 a1 x2 y0 (0 : Int32) _ _ _ _ h hp (q_sub hl [1, 2, 3, 0] rfl)
    · replace h := h.2 c_16
      refine lv_iconst (v := 1) hx hb dX7_condense_22 (by decide) ?_
      refine lv_goto (tgt := 27) hx hb dX7_condense_23 (by decide) ?_
      exact j27 a0 a1 x2 y0 (1 : Int32) _ _ _ _ h hp (q_sub hl [1, 2, 3, 0] rfl)
  unfold wX7_condense at h
  refine lv_aload_n hx hb dX7_condense_0 rfl (q_at hl 0 rfl) ?_
  refine lv_iload_n hx hb dX7_condense_1 rfl (q_at hl 2 rfl) ?_
  refine q_finI0 C hp (q_runV (As := [.int x2]) (rest := []) C hp (RX3_size l D g _ a0 x2 _ h _) (cwV 1 C.2.2.2.2.1 gX7_condense_X3_size rfl rfl rfl (by decide +kernel) ⟨(Nat.le_of_ble_eq_true rfl), (Nat.le_of_ble_eq_true rfl)⟩) h.1 rfl rfl hl.1.1 rfl (Nat.le_of_ble_eq_true rfl) dX7_condense_2 ⟨(Nat.le_of_ble_eq_true rfl), (Nat.le_of_ble_eq_true rfl)⟩) rfl rfl (fun v_18 S_17 H locs h hp => ?_)
  refine lv_if_ne (tgt := 12) hx hb dX7_condense_5 (by decide) (fun c_19 => ?_) (fun c_19 => ?_)
  · replace h := h.1 c_19
    refine lv_iconst (v := 0) hx hb dX7_condense_12 (by decide) ?_
    exact j13 a0 a1 x2 (0 : Int32) _ _ _ _ h hp (q_sub hl [0, 1, 2] rfl)
  · replace h := h.2 c_19
    refine lv_iconst (v := 1) hx hb dX7_condense_8 (by decide) ?_
    refine lv_goto (tgt := 13) hx hb dX7_condense_9 (by decide) ?_
    exact j13 a0 a1 x2 (1 : Int32) _ _ _ _ h hp (q_sub hl [0, 1, 2] rfl)
theorem kX7_condensed_10 : Cond.fieldLink RX7 10 (TX7 0).1 (TX7 0).2.1 (TX7 0).2.2.1 ∈ wsX7_condensed := by decide +kernel
theorem kX7_condensed_64 : Cond.fieldLinkNest RX7 64 (TX6 1).1 (TX6 1).2.1 (TX6 1).2.2.1 RX7 ∈ q_nest := by decide +kernel
theorem iX7_condensed_X6 : ∀ w ∈ u_ws RX6 TX6 5, w ∈ wsX7_condensed := by decide +kernel
theorem iX7_condensed_X7 : ∀ w ∈ u_ws RX7 TX7 6, w ∈ wsX7_condensed := by decide +kernel
set_option maxHeartbeats 4000000 in
set_option maxRecDepth 100000 in
theorem RX7_condensed (l : Launch) (D : va_G) (g : q_A) (S : q_S) (a0 : Nat) (x1 : Int32) (x2 : Int32) (x3 : Int32) (Q : Int32 → q_S → Prop) (h : wX7_condensed a0 x1 x2 x3 Q S) : q_Mi l yX7_condensed wsX7_condensed rmX7_condensed D g [.ref a0, .int x1, .int x2, .int x3] S Q := by
  refine q_Mi.of (cc := cX7_condensed) (nL := 6) (rt := .int) (by decide +kernel) rfl (Nat.le_of_ble_eq_true rfl) rfl ?_
  intro p e s m args below meth c ls A C hr hnm hp hl
  have C : q_X p s m args meth c cX7_condensed 6 RX7 wsX7_condensed D g A := C
  have hx := C.1
  have hb := C.2.1
  have hl : q_l ls 6 [(0, .ref a0), (1, .int x1), (2, .int x2), (3, .int x3)] := hl
  unfold wX7_condensed at h
  replace h := h.2
  refine lv_aload_n hx hb dX7_condensed_0 rfl (q_at hl 0 rfl) ?_
  refine q_rGR C hp h rfl iX7_condensed_X7 (by decide) kX7_condensed_10 dX7_condensed_1 (fun r_1 h => ?_)
  refine lv_iload_n hx hb dX7_condensed_4 rfl (q_at hl 1 rfl) ?_
  refine q_finQ0 C hp (q_runV (As := [.int x1]) (rest := []) C hp (RX5_voiceAt l D g _ r_1 x1 _ h _) (cwV 1 C.2.2.2.2.1 gX7_condensed_X5_voiceAt rfl rfl rfl (by decide +kernel) ⟨(Nat.le_of_ble_eq_true rfl), (Nat.le_of_ble_eq_true rfl)⟩) h.1 rfl rfl hl.1.1 rfl (Nat.le_of_ble_eq_true rfl) dX7_condensed_5 ⟨(Nat.le_of_ble_eq_true rfl), (Nat.le_of_ble_eq_true rfl)⟩) rfl rfl (fun o_3 S_2 H locs h hp => ?_)
  refine q_ast (o := o_3) (lv' := [(4, va_rf o_3), (0, .ref a0), (1, .int x1), (2, .int x2), (3, .int x3)]) hx hb dX7_condensed_8 hl (by decide) rfl (fun ls hl => ?_)
  refine lv_aload_n hx hb dX7_condensed_10 rfl (q_at hl 1 rfl) ?_
  refine q_rGR C hp h rfl iX7_condensed_X7 (by decide) kX7_condensed_10 dX7_condensed_11 (fun r_4 h => ?_)
  refine lv_iload_n hx hb dX7_condensed_14 rfl (q_at hl 3 rfl) ?_
  refine q_finQ0 C hp (q_runV (As := [.int x2]) (rest := []) C hp (RX5_voiceAt l D g _ r_4 x2 _ h _) (cwV 1 C.2.2.2.2.1 gX7_condensed_X5_voiceAt rfl rfl rfl (by decide +kernel) ⟨(Nat.le_of_ble_eq_true rfl), (Nat.le_of_ble_eq_true rfl)⟩) h.1 rfl rfl hl.1.1 rfl (Nat.le_of_ble_eq_true rfl) dX7_condensed_15 ⟨(Nat.le_of_ble_eq_true rfl), (Nat.le_of_ble_eq_true rfl)⟩) rfl rfl (fun o_6 S_5 H locs h hp => ?_)
  refine q_ast (o := o_6) (lv' := [(5, va_rf o_6), (4, va_rf o_3), (0, .ref a0), (1, .int x1), (2, .int x2), (3, .int x3)]) hx hb dX7_condensed_18 hl (by decide) rfl (fun ls hl => ?_)
  refine q_aload (o := o_3) hx hb dX7_condensed_20 (q_at hl 1 rfl) ?_
  refine q_ifnull (o := o_3) (tgt := 41) hx hb dX7_condensed_22 (by decide) (fun c_8 => ?_) (fun a_7 c_8 => ?_)
  · have hc_8 := h.1 c_8
    have lc_8 := hl
    have pc_8 := hp
    subst c_8
    have h := hc_8
    have hl := lc_8
    have hp := pc_8
    refine lv_bipush (v := (-101)) hx hb dX7_condensed_41 (by decide) ?_
    exact q_iret C hp hr h dX7_condensed_43
  · have hc_8 := h.2 a_7 c_8
    have lc_8 := hl
    have pc_8 := hp
    subst c_8
    have h := hc_8
    have hl := lc_8
    have hp := pc_8
    refine q_aload (o := o_6) hx hb dX7_condensed_25 (q_at hl 0 rfl) ?_
    refine q_ifnull (o := o_6) (tgt := 41) hx hb dX7_condensed_27 (by decide) (fun c_10 => ?_) (fun a_9 c_10 => ?_)
    · have hc_10 := h.1 c_10
      have lc_10 := hl
      have pc_10 := hp
      subst c_10
      have h := hc_10
      have hl := lc_10
      have hp := pc_10
      refine lv_bipush (v := (-101)) hx hb dX7_condensed_41 (by decide) ?_
      exact q_iret C hp hr h dX7_condensed_43
    · have hc_10 := h.2 a_9 c_10
      have lc_10 := hl
      have pc_10 := hp
      subst c_10
      have h := hc_10
      have hl := lc_10
      have hp := pc_10
      refine lv_aload_n hx hb dX7_condensed_30 rfl (q_at hl 2 rfl) ?_
      refine q_rGR C hp h rfl iX7_condensed_X7 (by decide) kX7_condensed_10 dX7_condensed_31 (fun r_11 h => ?_)
      refine lv_iload_n hx hb dX7_condensed_34 rfl (q_at hl 5 rfl) ?_
      refine q_finI0 C hp (q_runV (As := [.int x3]) (rest := []) C hp (RX5_hasBar l D g _ r_11 x3 _ h _) (cwV 1 C.2.2.2.2.1 gX7_condensed_X5_hasBar rfl rfl rfl (by decide +kernel) ⟨(Nat.le_of_ble_eq_true rfl), (Nat.le_of_ble_eq_true rfl)⟩) h.1 rfl rfl hl.1.1 rfl (Nat.le_of_ble_eq_true rfl) dX7_condensed_35 ⟨(Nat.le_of_ble_eq_true rfl), (Nat.le_of_ble_eq_true rfl)⟩) rfl rfl (fun v_13 S_12 H locs h hp => ?_)
      refine lv_if_ne (tgt := 44) hx hb dX7_condensed_38 (by decide) (fun c_14 => ?_) (fun c_14 => ?_)
      · replace h := h.1 c_14
        refine lv_iload_n hx hb dX7_condensed_44 rfl (q_at hl 3 rfl) ?_
        refine lv_iload_n hx hb dX7_condensed_45 rfl (q_at hl 4 rfl) ?_
        refine lv_icmp_ne (tgt := 52) hx hb dX7_condensed_46 (by decide) (fun c_15 => ?_) (fun c_15 => ?_)
        · replace h := h.1 c_15
          refine lv_aload hx hb dX7_condensed_52 (q_at hl 1 rfl) ?_
          refine q_nGR C hp h rfl iX7_condensed_X6 (by decide) kX7_condensed_64 dX7_condensed_54 (fun r_16 h => ?_)
          refine lv_aload hx hb dX7_condensed_57 (q_at hl 0 rfl) ?_
          refine q_nGR C hp h rfl iX7_condensed_X6 (by decide) kX7_condensed_64 dX7_condensed_59 (fun r_17 h => ?_)
          refine lv_iload_n hx hb dX7_condensed_62 rfl (q_at hl 5 rfl) ?_
          refine q_finI0 C hp (q_runS (As := [.ref r_16, .ref r_17, .int x3]) (rest := []) C hp (RX7_condense l D g _ r_16 r_17 x3 _ h _) (va_cwS 3 C.2.2.2.2.1 gX7_condensed_X7_condense rfl rfl rfl (by decide +kernel) ⟨(Nat.le_of_ble_eq_true rfl), (Nat.le_of_ble_eq_true rfl)⟩) rfl hl.1.1 rfl (Nat.le_of_ble_eq_true rfl) dX7_condensed_63 ⟨(Nat.le_of_ble_eq_true rfl), (Nat.le_of_ble_eq_true rfl)⟩) rfl rfl (fun v_19 S_18 H locs h hp => ?_)
          exact q_iret C hp hr h dX7_condensed_66
        · replace h := h.2 c_15
          refine lv_bipush (v := (-103)) hx hb dX7_condensed_49 (by decide) ?_
          exact q_iret C hp hr h dX7_condensed_51
      · replace h := h.2 c_14
        refine lv_bipush (v := (-101)) hx hb dX7_condensed_41 (by decide) ?_
        exact q_iret C hp hr h dX7_condensed_43
theorem kX7_together_10 : Cond.fieldLink RX7 10 (TX7 0).1 (TX7 0).2.1 (TX7 0).2.2.1 ∈ wsX7_together := by decide +kernel
theorem kX7_together_64 : Cond.fieldLinkNest RX7 64 (TX6 1).1 (TX6 1).2.1 (TX6 1).2.2.1 RX7 ∈ q_nest := by decide +kernel
theorem kX7_together_160 : Cond.fieldLinkNest RX7 160 (TX5 3).1 (TX5 3).2.1 (TX5 3).2.2.1 RX7 ∈ q_nest := by decide +kernel
theorem iX7_together_X5 : ∀ w ∈ u_ws RX5 TX5 5, w ∈ wsX7_together := by decide +kernel
theorem iX7_together_X6 : ∀ w ∈ u_ws RX6 TX6 5, w ∈ wsX7_together := by decide +kernel
theorem iX7_together_X7 : ∀ w ∈ u_ws RX7 TX7 6, w ∈ wsX7_together := by decide +kernel
set_option maxHeartbeats 4000000 in
set_option maxRecDepth 100000 in
theorem RX7_together (l : Launch) (D : va_G) (g : q_A) (S : q_S) (a0 : Nat) (x1 : Int32) (x2 : Int32) (Q : Int32 → q_S → Prop) (h : wX7_together a0 x1 x2 Q S) : q_Mi l yX7_together wsX7_together rmX7_together D g [.ref a0, .int x1, .int x2] S Q := by
  refine q_Mi.of (cc := cX7_together) (nL := 7) (rt := .int) (by decide +kernel) rfl (Nat.le_of_ble_eq_true rfl) rfl ?_
  intro p e s m args below meth c ls A C hr hnm hp hl
  have C : q_X p s m args meth c cX7_together 7 RX7 wsX7_together D g A := C
  have hx := C.1
  have hb := C.2.1
  have hl : q_l ls 7 [(0, .ref a0), (1, .int x1), (2, .int x2)] := hl
  have j78 : ∀ (k45 : Nat → Nat → Nat → Int32 → Int32 → q_S → Prop) (ih45 : ∀ (a0 : Nat) (a3 : Nat) (a4 : Nat) (x5 : Int32) (x6 : Int32) (S : q_S) (H : Heap) (locs : List Loc) (ls : Array Slot), k45 a0 a3 a4 x5 x6 S → q_P D g A s.heap S H locs → q_l ls 7 [(0, .ref a0), (3, .ref a3), (4, .ref a4), (5, .int x5), (6, .int x6)] → W p l e rmX7_together s m args below meth c H locs 0 0 (MQ below (va_Qi Q (q_B D g A) A) args s rmX7_together.cells rmX7_together.slots A) (F0 m 45 ls [])) (a0 : Nat) (a3 : Nat) (a4 : Nat) (x5 : Int32) (x6 : Int32) (S : q_S) (H : Heap) (locs : List Loc) (ls : Array Slot), wX7_together_b78 Q k45 a0 a3 a4 x5 x6 S → q_P D g A s.heap S H locs → q_l ls 7 [(0, .ref a0), (3, .ref a3), (4, .ref a4), (5, .int x5), (6, .int x6)] → W p l e rmX7_together s m args below meth c H locs 0 0 (MQ below (va_Qi Q (q_B D g A) A) args s rmX7_together.cells rmX7_together.slots A) (F0 m 78 ls []) := by
    intro k45 ih45 a0 a3 a4 x5 x6 S H locs ls h hp hl
    unfold wX7_together_b78 at h
    refine q_inc (x := x6) (v := (x6 + (1 : Int32))) (lv' := [(6, .int (x6 + (1 : Int32))), (0, .ref a0), (3, .ref a3), (4, .ref a4), (5, .int x5)]) hx hb dX7_together_78 hl (k := 4) rfl rfl (by decide) rfl (fun ls hl => ?_)
    refine lv_goto (tgt := 45) hx hb dX7_together_81 (by decide) ?_
    exact ih45 a0 a3 a4 x5 (x6 + (1 : Int32)) _ _ _ _ h hp (q_sub hl [1, 2, 3, 4, 0] rfl)
  have j45 : ∀ (n : Nat), ∀ (a0 : Nat) (a3 : Nat) (a4 : Nat) (x5 : Int32) (x6 : Int32) (S : q_S) (H : Heap) (locs : List Loc) (ls : Array Slot), lX7_together_b45 Q n a0 a3 a4 x5 x6 S → q_P D g A s.heap S H locs → q_l ls 7 [(0, .ref a0), (3, .ref a3), (4, .ref a4), (5, .int x5), (6, .int x6)] → W p l e rmX7_together s m args below meth c H locs 0 0 (MQ below (va_Qi Q (q_B D g A) A) args s rmX7_together.cells rmX7_together.slots A) (F0 m 45 ls []) := by
    intro n
    induction n with
    | zero => intro a0 a3 a4 x5 x6 S H locs ls h; exact absurd h (fun h => h)
    | succ n ih45 =>
      intro a0 a3 a4 x5 x6 S H locs ls h hp hl
      have h : wX7_together_b45 Q (lX7_together_b45 Q n) a0 a3 a4 x5 x6 S := h
      unfold wX7_together_b45 at h
      refine lv_iload hx hb dX7_together_45 (q_at hl 4 rfl) ?_
      refine lv_aload_n hx hb dX7_together_47 rfl (q_at hl 0 rfl) ?_
      refine q_rGR C hp h rfl iX7_together_X7 (by decide) kX7_together_10 dX7_together_48 (fun r_1 h => ?_)
      refine q_nGI C hp h rfl iX7_together_X5 (by decide) kX7_together_160 dX7_together_51 (fun v_2 h => ?_)
      refine lv_icmp_ge (tgt := 84) hx hb dX7_together_54 (by decide) (fun c_3 => ?_) (fun c_3 => ?_)
      · replace h := h.1 c_3
        refine lv_iload hx hb dX7_together_84 (q_at hl 3 rfl) ?_
        exact q_iret C hp hr h dX7_together_86
      · replace h := h.2 c_3
        refine lv_aload_n hx hb dX7_together_57 rfl (q_at hl 1 rfl) ?_
        refine q_nGR C hp h rfl iX7_together_X6 (by decide) kX7_together_64 dX7_together_58 (fun r_4 h => ?_)
        refine lv_aload hx hb dX7_together_61 (q_at hl 2 rfl) ?_
        refine q_nGR C hp h rfl iX7_together_X6 (by decide) kX7_together_64 dX7_together_63 (fun r_5 h => ?_)
        refine lv_iload hx hb dX7_together_66 (q_at hl 4 rfl) ?_
        refine q_finI0 C hp (q_runS (As := [.ref r_4, .ref r_5, .int x6]) (rest := []) C hp (RX7_condense l D g _ r_4 r_5 x6 _ h _) (va_cwS 3 C.2.2.2.2.1 gX7_together_X7_condense rfl rfl rfl (by decide +kernel) ⟨(Nat.le_of_ble_eq_true rfl), (Nat.le_of_ble_eq_true rfl)⟩) rfl hl.1.1 rfl (Nat.le_of_ble_eq_true rfl) dX7_together_68 ⟨(Nat.le_of_ble_eq_true rfl), (Nat.le_of_ble_eq_true rfl)⟩) rfl rfl (fun v_7 S_6 H locs h hp => ?_)
        refine lv_iconst (v := 5) hx hb dX7_together_71 (by decide) ?_
        refine lv_icmp_eq (tgt := 78) hx hb dX7_together_72 (by decide) (fun c_8 => ?_) (fun c_8 => ?_)
        · replace h := h.1 c_8
          exact j78 (lX7_together_b45 Q n) ih45 a0 a3 a4 x5 x6 _ _ _ _ h hp (q_sub hl [0, 1, 2, 3, 4] rfl)
        · replace h := h.2 c_8
          refine q_inc (x := x5) (v := (x5 + (1 : Int32))) (lv' := [(5, .int (x5 + (1 : Int32))), (0, .ref a0), (3, .ref a3), (4, .ref a4), (6, .int x6)]) hx hb dX7_together_75 hl (k := 3) rfl rfl (by decide) rfl (fun ls hl => ?_)
          exact j78 (lX7_together_b45 Q n) ih45 a0 a3 a4 (x5 + (1 : Int32)) x6 _ _ _ _ h hp (q_sub hl [1, 2, 3, 0, 4] rfl)
  unfold wX7_together at h
  replace h := h.2
  refine lv_aload_n hx hb dX7_together_0 rfl (q_at hl 0 rfl) ?_
  refine q_rGR C hp h rfl iX7_together_X7 (by decide) kX7_together_10 dX7_together_1 (fun r_9 h => ?_)
  refine lv_iload_n hx hb dX7_together_4 rfl (q_at hl 1 rfl) ?_
  refine q_finQ0 C hp (q_runV (As := [.int x1]) (rest := []) C hp (RX5_voiceAt l D g _ r_9 x1 _ h _) (cwV 1 C.2.2.2.2.1 gX7_together_X5_voiceAt rfl rfl rfl (by decide +kernel) ⟨(Nat.le_of_ble_eq_true rfl), (Nat.le_of_ble_eq_true rfl)⟩) h.1 rfl rfl hl.1.1 rfl (Nat.le_of_ble_eq_true rfl) dX7_together_5 ⟨(Nat.le_of_ble_eq_true rfl), (Nat.le_of_ble_eq_true rfl)⟩) rfl rfl (fun o_11 S_10 H locs h hp => ?_)
  refine q_astn (o := o_11) (lv' := [(3, va_rf o_11), (0, .ref a0), (1, .int x1), (2, .int x2)]) hx hb dX7_together_8 rfl hl (by decide) rfl (fun ls hl => ?_)
  refine lv_aload_n hx hb dX7_together_9 rfl (q_at hl 1 rfl) ?_
  refine q_rGR C hp h rfl iX7_together_X7 (by decide) kX7_together_10 dX7_together_10 (fun r_12 h => ?_)
  refine lv_iload_n hx hb dX7_together_13 rfl (q_at hl 3 rfl) ?_
  refine q_finQ0 C hp (q_runV (As := [.int x2]) (rest := []) C hp (RX5_voiceAt l D g _ r_12 x2 _ h _) (cwV 1 C.2.2.2.2.1 gX7_together_X5_voiceAt rfl rfl rfl (by decide +kernel) ⟨(Nat.le_of_ble_eq_true rfl), (Nat.le_of_ble_eq_true rfl)⟩) h.1 rfl rfl hl.1.1 rfl (Nat.le_of_ble_eq_true rfl) dX7_together_14 ⟨(Nat.le_of_ble_eq_true rfl), (Nat.le_of_ble_eq_true rfl)⟩) rfl rfl (fun o_14 S_13 H locs h hp => ?_)
  refine q_ast (o := o_14) (lv' := [(4, va_rf o_14), (3, va_rf o_11), (0, .ref a0), (1, .int x1), (2, .int x2)]) hx hb dX7_together_17 hl (by decide) rfl (fun ls hl => ?_)
  refine q_aload_n (o := o_11) hx hb dX7_together_19 rfl (q_at hl 1 rfl) ?_
  refine q_ifnull (o := o_11) (tgt := 28) hx hb dX7_together_20 (by decide) (fun c_16 => ?_) (fun a_15 c_16 => ?_)
  · have hc_16 := h.1 c_16
    have lc_16 := hl
    have pc_16 := hp
    subst c_16
    have h := hc_16
    have hl := lc_16
    have hp := pc_16
    refine lv_bipush (v := (-101)) hx hb dX7_together_28 (by decide) ?_
    exact q_iret C hp hr h dX7_together_30
  · have hc_16 := h.2 a_15 c_16
    have lc_16 := hl
    have pc_16 := hp
    subst c_16
    have h := hc_16
    have hl := lc_16
    have hp := pc_16
    refine q_aload (o := o_14) hx hb dX7_together_23 (q_at hl 0 rfl) ?_
    refine q_ifnonnull (o := o_14) (tgt := 31) hx hb dX7_together_25 (by decide) (fun c_18 => ?_) (fun a_17 c_18 => ?_)
    · have hc_18 := h.1 c_18
      have lc_18 := hl
      have pc_18 := hp
      subst c_18
      have h := hc_18
      have hl := lc_18
      have hp := pc_18
      refine lv_bipush (v := (-101)) hx hb dX7_together_28 (by decide) ?_
      exact q_iret C hp hr h dX7_together_30
    · have hc_18 := h.2 a_17 c_18
      have lc_18 := hl
      have pc_18 := hp
      subst c_18
      have h := hc_18
      have hl := lc_18
      have hp := pc_18
      refine lv_iload_n hx hb dX7_together_31 rfl (q_at hl 3 rfl) ?_
      refine lv_iload_n hx hb dX7_together_32 rfl (q_at hl 4 rfl) ?_
      refine lv_icmp_ne (tgt := 39) hx hb dX7_together_33 (by decide) (fun c_19 => ?_) (fun c_19 => ?_)
      · replace h := h.1 c_19
        refine lv_iconst (v := 0) hx hb dX7_together_39 (by decide) ?_
        refine q_ist (lv' := [(5, .int (0 : Int32)), (4, .ref a_17), (3, .ref a_15), (0, .ref a0), (1, .int x1), (2, .int x2)]) hx hb dX7_together_40 hl (by decide) rfl (fun ls hl => ?_)
        refine lv_iconst (v := 0) hx hb dX7_together_42 (by decide) ?_
        refine q_ist (lv' := [(6, .int (0 : Int32)), (5, .int (0 : Int32)), (4, .ref a_17), (3, .ref a_15), (0, .ref a0), (1, .int x1), (2, .int x2)]) hx hb dX7_together_43 hl (by decide) rfl (fun ls hl => ?_)
        exact j45 q_fuel a0 a_15 a_17 (0 : Int32) (0 : Int32) _ _ _ _ h hp (q_sub hl [4, 3, 2, 1, 0] rfl)
      · replace h := h.2 c_19
        refine lv_bipush (v := (-103)) hx hb dX7_together_36 (by decide) ?_
        exact q_iret C hp hr h dX7_together_38
theorem kX7_count_10 : Cond.fieldLink RX7 10 (TX7 0).1 (TX7 0).2.1 (TX7 0).2.2.1 ∈ wsX7_count := by decide +kernel
theorem kX7_count_90 : Cond.fieldLinkNest RX7 90 (TX5 1).1 (TX5 1).2.1 (TX5 1).2.2.1 RX7 ∈ q_nest := by decide +kernel
theorem kX7_count_160 : Cond.fieldLinkNest RX7 160 (TX5 3).1 (TX5 3).2.1 (TX5 3).2.2.1 RX7 ∈ q_nest := by decide +kernel
theorem kX7_count_163 : Cond.fieldLinkNest RX7 163 (TX5 2).1 (TX5 2).2.1 (TX5 2).2.2.1 RX7 ∈ q_nest := by decide +kernel
theorem iX7_count_X5 : ∀ w ∈ u_ws RX5 TX5 5, w ∈ wsX7_count := by decide +kernel
theorem iX7_count_X7 : ∀ w ∈ u_ws RX7 TX7 6, w ∈ wsX7_count := by decide +kernel
set_option maxHeartbeats 4000000 in
set_option maxRecDepth 100000 in
theorem RX7_count (l : Launch) (D : va_G) (g : q_A) (S : q_S) (a0 : Nat) (x1 : Int32) (Q : Int32 → q_S → Prop) (h : wX7_count a0 x1 Q S) : q_Mi l yX7_count wsX7_count rmX7_count D g [.ref a0, .int x1] S Q := by
  refine q_Mi.of (cc := cX7_count) (nL := 2) (rt := .int) (by decide +kernel) rfl (Nat.le_of_ble_eq_true rfl) rfl ?_
  intro p e s m args below meth c ls A C hr hnm hp hl
  have C : q_X p s m args meth c cX7_count 2 RX7 wsX7_count D g A := C
  have hx := C.1
  have hb := C.2.1
  have hl : q_l ls 2 [(0, .ref a0), (1, .int x1)] := hl
  unfold wX7_count at h
  replace h := h.2
  refine lv_iload_n hx hb dX7_count_0 rfl (q_at hl 1 rfl) ?_
  by_cases hout : (x1).toInt < 0 ∨ 5 < (x1).toInt
  · replace h := h.1 hout
    refine lv_tableOut (tgt := 90) hx hb dX7_count_1 hout (by decide) ?_
    refine lv_bipush (v := (-102)) hx hb dX7_count_90 (by decide) ?_
    exact q_iret C hp hr h dX7_count_92
  · have hc : (x1).toInt = 0 ∨ (x1).toInt = 1 ∨ (x1).toInt = 2 ∨ (x1).toInt = 3 ∨ (x1).toInt = 4 ∨ (x1).toInt = 5 := by omega
    rcases hc with hc | hc | hc | hc | hc | hc
    · replace h := h.2.1 hc
      refine lv_tableIn (off := 39) (tgt := 40) hx hb dX7_count_1 (by omega) (by omega) (by rw [hc]; rfl) (by decide) ?_
      refine lv_aload_n hx hb dX7_count_40 rfl (q_at hl 0 rfl) ?_
      refine q_rGR C hp h rfl iX7_count_X7 (by decide) kX7_count_10 dX7_count_41 (fun r_1 h => ?_)
      refine q_nGI C hp h rfl iX7_count_X5 (by decide) kX7_count_163 dX7_count_44 (fun v_2 h => ?_)
      exact q_iret C hp hr h dX7_count_47
    · replace h := h.2.2.1 hc
      refine lv_tableIn (off := 47) (tgt := 48) hx hb dX7_count_1 (by omega) (by omega) (by rw [hc]; rfl) (by decide) ?_
      refine lv_aload_n hx hb dX7_count_48 rfl (q_at hl 0 rfl) ?_
      refine q_rGR C hp h rfl iX7_count_X7 (by decide) kX7_count_10 dX7_count_49 (fun r_3 h => ?_)
      refine q_nGI C hp h rfl iX7_count_X5 (by decide) kX7_count_160 dX7_count_52 (fun v_4 h => ?_)
      exact q_iret C hp hr h dX7_count_55
    · replace h := h.2.2.2.1 hc
      refine lv_tableIn (off := 55) (tgt := 56) hx hb dX7_count_1 (by omega) (by omega) (by rw [hc]; rfl) (by decide) ?_
      refine lv_aload_n hx hb dX7_count_56 rfl (q_at hl 0 rfl) ?_
      refine q_rGR C hp h rfl iX7_count_X7 (by decide) kX7_count_10 dX7_count_57 (fun r_5 h => ?_)
      refine q_finI0 C hp (q_runV (As := []) (rest := []) C hp (RX5_noteTotal l D g _ r_5 _ h _) (cwV 0 C.2.2.2.2.1 gX7_count_X5_noteTotal rfl rfl rfl (by decide +kernel) ⟨(Nat.le_of_ble_eq_true rfl), (Nat.le_of_ble_eq_true rfl)⟩) h.1 rfl rfl hl.1.1 rfl (Nat.le_of_ble_eq_true rfl) dX7_count_60 ⟨(Nat.le_of_ble_eq_true rfl), (Nat.le_of_ble_eq_true rfl)⟩) rfl rfl (fun v_7 S_6 H locs h hp => ?_)
      exact q_iret C hp hr h dX7_count_63
    · replace h := h.2.2.2.2.1 hc
      refine lv_tableIn (off := 63) (tgt := 64) hx hb dX7_count_1 (by omega) (by omega) (by rw [hc]; rfl) (by decide) ?_
      refine lv_aload_n hx hb dX7_count_64 rfl (q_at hl 0 rfl) ?_
      refine q_rGR C hp h rfl iX7_count_X7 (by decide) kX7_count_10 dX7_count_65 (fun r_8 h => ?_)
      refine q_finI0 C hp (q_runV (As := []) (rest := []) C hp (RX5_partTotal l D g _ r_8 _ h _) (cwV 0 C.2.2.2.2.1 gX7_count_X5_partTotal rfl rfl rfl (by decide +kernel) ⟨(Nat.le_of_ble_eq_true rfl), (Nat.le_of_ble_eq_true rfl)⟩) h.1 rfl rfl hl.1.1 rfl (Nat.le_of_ble_eq_true rfl) dX7_count_68 ⟨(Nat.le_of_ble_eq_true rfl), (Nat.le_of_ble_eq_true rfl)⟩) rfl rfl (fun v_10 S_9 H locs h hp => ?_)
      exact q_iret C hp hr h dX7_count_71
    · replace h := h.2.2.2.2.2.1 hc
      refine lv_tableIn (off := 71) (tgt := 72) hx hb dX7_count_1 (by omega) (by omega) (by rw [hc]; rfl) (by decide) ?_
      refine lv_aload_n hx hb dX7_count_72 rfl (q_at hl 0 rfl) ?_
      refine lv_bipush (v := 6) hx hb dX7_count_73 (by decide) ?_
      refine q_finI0 C hp (q_runV (As := [.int (6 : Int32)]) (rest := []) C hp (RX7_lastNumberAhead l D g _ a0 (6 : Int32) _ h _) (cwV 1 C.2.2.2.2.1 gX7_count_X7_lastNumberAhead rfl rfl rfl (by decide +kernel) ⟨(Nat.le_of_ble_eq_true rfl), (Nat.le_of_ble_eq_true rfl)⟩) h.1 rfl rfl hl.1.1 rfl (Nat.le_of_ble_eq_true rfl) dX7_count_75 ⟨(Nat.le_of_ble_eq_true rfl), (Nat.le_of_ble_eq_true rfl)⟩) rfl rfl (fun v_12 S_11 H locs h hp => ?_)
      exact q_iret C hp hr h dX7_count_78
    · replace h := h.2.2.2.2.2.2 hc
      refine lv_tableIn (off := 78) (tgt := 79) hx hb dX7_count_1 (by omega) (by omega) (by rw [hc]; rfl) (by decide) ?_
      refine lv_aload_n hx hb dX7_count_79 rfl (q_at hl 0 rfl) ?_
      refine q_rGR C hp h rfl iX7_count_X7 (by decide) kX7_count_10 dX7_count_80 (fun r_13 h => ?_)
      refine q_nGR C hp h rfl iX7_count_X5 (by decide) kX7_count_90 dX7_count_83 (fun r_14 h => ?_)
      refine q_finI0 C hp (q_runV (As := []) (rest := []) C hp (RX2_total l D g _ r_14 _ h _) (cwV 0 C.2.2.2.2.1 gX7_count_X2_total rfl rfl rfl (by decide +kernel) ⟨(Nat.le_of_ble_eq_true rfl), (Nat.le_of_ble_eq_true rfl)⟩) h.1 rfl rfl hl.1.1 rfl (Nat.le_of_ble_eq_true rfl) dX7_count_86 ⟨(Nat.le_of_ble_eq_true rfl), (Nat.le_of_ble_eq_true rfl)⟩) rfl rfl (fun v_16 S_15 H locs h hp => ?_)
      exact q_iret C hp hr h dX7_count_89
