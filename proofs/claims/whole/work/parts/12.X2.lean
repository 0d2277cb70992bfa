set_option maxRecDepth 20000 in
theorem ggX2_init_J7_fill_53178 : GoodIn wsX2_init wsJ7_fill_53178 := goodIn_r _ [9] (by decide +kernel) (by decide +kernel)
set_option maxRecDepth 20000 in
theorem gX2_init_J7_fill_53178 : GoodIn wsX2_init (va_wsS RX2 15 yJ7_fill_53178 wsJ7_fill_53178) := goodIn_app (goodIn_of _ (by decide +kernel)) ggX2_init_J7_fill_53178
theorem dX2_init_0 : decode cX2_init 0 = .ok (.aload_n 0, 1) := by decide +kernel
theorem dX2_init_1 : decode cX2_init 1 = .ok (.invokespecial 3, 3) := by decide +kernel
theorem dX2_init_4 : decode cX2_init 4 = .ok (.aload_n 0, 1) := by decide +kernel
theorem dX2_init_5 : decode cX2_init 5 = .ok (.sipush 200, 3) := by decide +kernel
theorem dX2_init_8 : decode cX2_init 8 = .ok (.newarray .int, 2) := by decide +kernel
theorem dX2_init_10 : decode cX2_init 10 = .ok (.putfield 9, 3) := by decide +kernel
theorem dX2_init_13 : decode cX2_init 13 = .ok (.aload_n 0, 1) := by decide +kernel
theorem dX2_init_14 : decode cX2_init 14 = .ok (.getfield 9, 3) := by decide +kernel
theorem dX2_init_17 : decode cX2_init 17 = .ok (.bipush (-100), 2) := by decide +kernel
theorem dX2_init_19 : decode cX2_init 19 = .ok (.invokestatic 15, 3) := by decide +kernel
theorem dX2_init_22 : decode cX2_init 22 = .ok (.return_, 1) := by decide +kernel
set_option maxRecDepth 20000 in
theorem ggX2_valueAt_X2_isPlace : GoodIn wsX2_valueAt wsX2_isPlace := goodIn_r _ [5] (by decide +kernel) (by decide +kernel)
set_option maxRecDepth 20000 in
theorem gX2_valueAt_X2_isPlace : GoodIn wsX2_valueAt (va_wsS RX2 21 yX2_isPlace wsX2_isPlace) := goodIn_app (goodIn_of _ (by decide +kernel)) ggX2_valueAt_X2_isPlace
theorem dX2_valueAt_0 : decode cX2_valueAt 0 = .ok (.iload_n 1, 1) := by decide +kernel
theorem dX2_valueAt_1 : decode cX2_valueAt 1 = .ok (.iload_n 2, 1) := by decide +kernel
theorem dX2_valueAt_2 : decode cX2_valueAt 2 = .ok (.invokestatic 21, 3) := by decide +kernel
theorem dX2_valueAt_5 : decode cX2_valueAt 5 = .ok (.ifCond .eq 16, 3) := by decide +kernel
theorem dX2_valueAt_8 : decode cX2_valueAt 8 = .ok (.aload_n 0, 1) := by decide +kernel
theorem dX2_valueAt_9 : decode cX2_valueAt 9 = .ok (.getfield 9, 3) := by decide +kernel
theorem dX2_valueAt_12 : decode cX2_valueAt 12 = .ok (.iload_n 1, 1) := by decide +kernel
theorem dX2_valueAt_13 : decode cX2_valueAt 13 = .ok (.iconst 5, 1) := by decide +kernel
theorem dX2_valueAt_14 : decode cX2_valueAt 14 = .ok (.imul, 1) := by decide +kernel
theorem dX2_valueAt_15 : decode cX2_valueAt 15 = .ok (.iload_n 2, 1) := by decide +kernel
theorem dX2_valueAt_16 : decode cX2_valueAt 16 = .ok (.iadd, 1) := by decide +kernel
theorem dX2_valueAt_17 : decode cX2_valueAt 17 = .ok (.iaload, 1) := by decide +kernel
theorem dX2_valueAt_18 : decode cX2_valueAt 18 = .ok (.goto 5, 3) := by decide +kernel
theorem dX2_valueAt_21 : decode cX2_valueAt 21 = .ok (.bipush (-100), 2) := by decide +kernel
theorem dX2_valueAt_23 : decode cX2_valueAt 23 = .ok (.ireturn, 1) := by decide +kernel
set_option maxRecDepth 20000 in
theorem ggX2_replace_X2_isPlace : GoodIn wsX2_replace wsX2_isPlace := goodIn_r _ [5] (by decide +kernel) (by decide +kernel)
set_option maxRecDepth 20000 in
theorem gX2_replace_X2_isPlace : GoodIn wsX2_replace (va_wsS RX2 21 yX2_isPlace wsX2_isPlace) := goodIn_app (goodIn_of _ (by decide +kernel)) ggX2_replace_X2_isPlace
theorem dX2_replace_0 : decode cX2_replace 0 = .ok (.iload_n 1, 1) := by decide +kernel
theorem dX2_replace_1 : decode cX2_replace 1 = .ok (.iload_n 2, 1) := by decide +kernel
theorem dX2_replace_2 : decode cX2_replace 2 = .ok (.invokestatic 21, 3) := by decide +kernel
theorem dX2_replace_5 : decode cX2_replace 5 = .ok (.ifCond .ne 6, 3) := by decide +kernel
theorem dX2_replace_8 : decode cX2_replace 8 = .ok (.bipush (-100), 2) := by decide +kernel
theorem dX2_replace_10 : decode cX2_replace 10 = .ok (.ireturn, 1) := by decide +kernel
theorem dX2_replace_11 : decode cX2_replace 11 = .ok (.aload_n 0, 1) := by decide +kernel
theorem dX2_replace_12 : decode cX2_replace 12 = .ok (.getfield 9, 3) := by decide +kernel
theorem dX2_replace_15 : decode cX2_replace 15 = .ok (.iload_n 1, 1) := by decide +kernel
theorem dX2_replace_16 : decode cX2_replace 16 = .ok (.iconst 5, 1) := by decide +kernel
theorem dX2_replace_17 : decode cX2_replace 17 = .ok (.imul, 1) := by decide +kernel
theorem dX2_replace_18 : decode cX2_replace 18 = .ok (.iload_n 2, 1) := by decide +kernel
theorem dX2_replace_19 : decode cX2_replace 19 = .ok (.iadd, 1) := by decide +kernel
theorem dX2_replace_20 : decode cX2_replace 20 = .ok (.iaload, 1) := by decide +kernel
theorem dX2_replace_21 : decode cX2_replace 21 = .ok (.istore 4, 2) := by decide +kernel
theorem dX2_replace_23 : decode cX2_replace 23 = .ok (.aload_n 0, 1) := by decide +kernel
theorem dX2_replace_24 : decode cX2_replace 24 = .ok (.getfield 9, 3) := by decide +kernel
theorem dX2_replace_27 : decode cX2_replace 27 = .ok (.iload_n 1, 1) := by decide +kernel
theorem dX2_replace_28 : decode cX2_replace 28 = .ok (.iconst 5, 1) := by decide +kernel
theorem dX2_replace_29 : decode cX2_replace 29 = .ok (.imul, 1) := by decide +kernel
theorem dX2_replace_30 : decode cX2_replace 30 = .ok (.iload_n 2, 1) := by decide +kernel
theorem dX2_replace_31 : decode cX2_replace 31 = .ok (.iadd, 1) := by decide +kernel
theorem dX2_replace_32 : decode cX2_replace 32 = .ok (.iload_n 3, 1) := by decide +kernel
theorem dX2_replace_33 : decode cX2_replace 33 = .ok (.iastore, 1) := by decide +kernel
theorem dX2_replace_34 : decode cX2_replace 34 = .ok (.iload 4, 2) := by decide +kernel
theorem dX2_replace_36 : decode cX2_replace 36 = .ok (.ireturn, 1) := by decide +kernel
set_option maxRecDepth 20000 in
theorem ggX2_clearFrom_X2_replace : GoodIn wsX2_clearFrom wsX2_replace := goodIn_r _ [9, 10, 11, 12, 8, 13, 14] (by decide +kernel) (by decide +kernel)
set_option maxRecDepth 20000 in
theorem gX2_clearFrom_X2_replace : GoodIn wsX2_clearFrom (wsV RX2 31 RX2 yX2_replace wsX2_replace) := goodIn_app (goodIn_of _ (by decide +kernel)) ggX2_clearFrom_X2_replace
theorem dX2_clearFrom_0 : decode cX2_clearFrom 0 = .ok (.iconst 0, 1) := by decide +kernel
theorem dX2_clearFrom_1 : decode cX2_clearFrom 1 = .ok (.iload_n 1, 1) := by decide +kernel
theorem dX2_clearFrom_2 : decode cX2_clearFrom 2 = .ok (.invokestatic 25, 3) := by decide +kernel
theorem dX2_clearFrom_5 : decode cX2_clearFrom 5 = .ok (.istore_n 3, 1) := by decide +kernel
theorem dX2_clearFrom_6 : decode cX2_clearFrom 6 = .ok (.iload_n 3, 1) := by decide +kernel
theorem dX2_clearFrom_7 : decode cX2_clearFrom 7 = .ok (.iload_n 2, 1) := by decide +kernel
theorem dX2_clearFrom_8 : decode cX2_clearFrom 8 = .ok (.if_icmp .ge 40, 3) := by decide +kernel
theorem dX2_clearFrom_11 : decode cX2_clearFrom 11 = .ok (.iload_n 3, 1) := by decide +kernel
theorem dX2_clearFrom_12 : decode cX2_clearFrom 12 = .ok (.bipush 40, 2) := by decide +kernel
theorem dX2_clearFrom_14 : decode cX2_clearFrom 14 = .ok (.if_icmp .ge 34, 3) := by decide +kernel
theorem dX2_clearFrom_17 : decode cX2_clearFrom 17 = .ok (.iconst 0, 1) := by decide +kernel
theorem dX2_clearFrom_18 : decode cX2_clearFrom 18 = .ok (.istore 4, 2) := by decide +kernel
theorem dX2_clearFrom_20 : decode cX2_clearFrom 20 = .ok (.iload 4, 2) := by decide +kernel
theorem dX2_clearFrom_22 : decode cX2_clearFrom 22 = .ok (.iconst 5, 1) := by decide +kernel
theorem dX2_clearFrom_23 : decode cX2_clearFrom 23 = .ok (.if_icmp .ge 19, 3) := by decide +kernel
theorem dX2_clearFrom_26 : decode cX2_clearFrom 26 = .ok (.aload_n 0, 1) := by decide +kernel
theorem dX2_clearFrom_27 : decode cX2_clearFrom 27 = .ok (.iload_n 3, 1) := by decide +kernel
theorem dX2_clearFrom_28 : decode cX2_clearFrom 28 = .ok (.iload 4, 2) := by decide +kernel
theorem dX2_clearFrom_30 : decode cX2_clearFrom 30 = .ok (.bipush (-100), 2) := by decide +kernel
theorem dX2_clearFrom_32 : decode cX2_clearFrom 32 = .ok (.invokevirtual 31, 3) := by decide +kernel
theorem dX2_clearFrom_35 : decode cX2_clearFrom 35 = .ok (.pop, 1) := by decide +kernel
theorem dX2_clearFrom_36 : decode cX2_clearFrom 36 = .ok (.iinc 4 1, 3) := by decide +kernel
theorem dX2_clearFrom_39 : decode cX2_clearFrom 39 = .ok (.goto (-19), 3) := by decide +kernel
theorem dX2_clearFrom_42 : decode cX2_clearFrom 42 = .ok (.iinc 3 1, 3) := by decide +kernel
theorem dX2_clearFrom_45 : decode cX2_clearFrom 45 = .ok (.goto (-39), 3) := by decide +kernel
theorem dX2_clearFrom_48 : decode cX2_clearFrom 48 = .ok (.return_, 1) := by decide +kernel
set_option maxRecDepth 20000 in
theorem ggX2_isNeeded_X2_valueAt : GoodIn wsX2_isNeeded wsX2_valueAt := goodIn_r _ [5, 6, 7, 8, 4, 9, 10] (by decide +kernel) (by decide +kernel)
set_option maxRecDepth 20000 in
theorem gX2_isNeeded_X2_valueAt : GoodIn wsX2_isNeeded (wsV RX2 35 RX2 yX2_valueAt wsX2_valueAt) := goodIn_app (goodIn_of _ (by decide +kernel)) ggX2_isNeeded_X2_valueAt
theorem dX2_isNeeded_0 : decode cX2_isNeeded 0 = .ok (.iconst 0, 1) := by decide +kernel
theorem dX2_isNeeded_1 : decode cX2_isNeeded 1 = .ok (.istore_n 2, 1) := by decide +kernel
theorem dX2_isNeeded_2 : decode cX2_isNeeded 2 = .ok (.iload_n 2, 1) := by decide +kernel
theorem dX2_isNeeded_3 : decode cX2_isNeeded 3 = .ok (.iconst 5, 1) := by decide +kernel
theorem dX2_isNeeded_4 : decode cX2_isNeeded 4 = .ok (.if_icmp .ge 27, 3) := by decide +kernel
theorem dX2_isNeeded_7 : decode cX2_isNeeded 7 = .ok (.iload_n 2, 1) := by decide +kernel
theorem dX2_isNeeded_8 : decode cX2_isNeeded 8 = .ok (.iconst 4, 1) := by decide +kernel
theorem dX2_isNeeded_9 : decode cX2_isNeeded 9 = .ok (.if_icmp .eq 16, 3) := by decide +kernel
theorem dX2_isNeeded_12 : decode cX2_isNeeded 12 = .ok (.aload_n 0, 1) := by decide +kernel
theorem dX2_isNeeded_13 : decode cX2_isNeeded 13 = .ok (.iload_n 1, 1) := by decide +kernel
theorem dX2_isNeeded_14 : decode cX2_isNeeded 14 = .ok (.iload_n 2, 1) := by decide +kernel
theorem dX2_isNeeded_15 : decode cX2_isNeeded 15 = .ok (.invokevirtual 35, 3) := by decide +kernel
theorem dX2_isNeeded_18 : decode cX2_isNeeded 18 = .ok (.bipush (-100), 2) := by decide +kernel
theorem dX2_isNeeded_20 : decode cX2_isNeeded 20 = .ok (.if_icmp .eq 5, 3) := by decide +kernel
theorem dX2_isNeeded_23 : decode cX2_isNeeded 23 = .ok (.iconst 1, 1) := by decide +kernel
theorem dX2_isNeeded_24 : decode cX2_isNeeded 24 = .ok (.ireturn, 1) := by decide +kernel
theorem dX2_isNeeded_25 : decode cX2_isNeeded 25 = .ok (.iinc 2 1, 3) := by decide +kernel
theorem dX2_isNeeded_28 : decode cX2_isNeeded 28 = .ok (.goto (-26), 3) := by decide +kernel
theorem dX2_isNeeded_31 : decode cX2_isNeeded 31 = .ok (.iconst 0, 1) := by decide +kernel
theorem dX2_isNeeded_32 : decode cX2_isNeeded 32 = .ok (.ireturn, 1) := by decide +kernel
set_option maxRecDepth 20000 in
theorem ggX2_keyAt_X2_valueAt : GoodIn wsX2_keyAt wsX2_valueAt := goodIn_r _ [5, 6, 7, 8, 4, 9, 10] (by decide +kernel) (by decide +kernel)
set_option maxRecDepth 20000 in
theorem gX2_keyAt_X2_valueAt : GoodIn wsX2_keyAt (wsV RX2 35 RX2 yX2_valueAt wsX2_valueAt) := goodIn_app (goodIn_of _ (by decide +kernel)) ggX2_keyAt_X2_valueAt
theorem dX2_keyAt_0 : decode cX2_keyAt 0 = .ok (.iload_n 1, 1) := by decide +kernel
theorem dX2_keyAt_1 : decode cX2_keyAt 1 = .ok (.istore_n 2, 1) := by decide +kernel
theorem dX2_keyAt_2 : decode cX2_keyAt 2 = .ok (.iload_n 2, 1) := by decide +kernel
theorem dX2_keyAt_3 : decode cX2_keyAt 3 = .ok (.ifCond .lt 24, 3) := by decide +kernel
theorem dX2_keyAt_6 : decode cX2_keyAt 6 = .ok (.aload_n 0, 1) := by decide +kernel
theorem dX2_keyAt_7 : decode cX2_keyAt 7 = .ok (.iload_n 2, 1) := by decide +kernel
theorem dX2_keyAt_8 : decode cX2_keyAt 8 = .ok (.iconst 0, 1) := by decide +kernel
theorem dX2_keyAt_9 : decode cX2_keyAt 9 = .ok (.invokevirtual 35, 3) := by decide +kernel
theorem dX2_keyAt_12 : decode cX2_keyAt 12 = .ok (.istore_n 3, 1) := by decide +kernel
theorem dX2_keyAt_13 : decode cX2_keyAt 13 = .ok (.iload_n 3, 1) := by decide +kernel
theorem dX2_keyAt_14 : decode cX2_keyAt 14 = .ok (.bipush (-100), 2) := by decide +kernel
theorem dX2_keyAt_16 : decode cX2_keyAt 16 = .ok (.if_icmp .eq 5, 3) := by decide +kernel
theorem dX2_keyAt_19 : decode cX2_keyAt 19 = .ok (.iload_n 3, 1) := by decide +kernel
theorem dX2_keyAt_20 : decode cX2_keyAt 20 = .ok (.ireturn, 1) := by decide +kernel
theorem dX2_keyAt_21 : decode cX2_keyAt 21 = .ok (.iinc 2 (-1), 3) := by decide +kernel
theorem dX2_keyAt_24 : decode cX2_keyAt 24 = .ok (.goto (-22), 3) := by decide +kernel
theorem dX2_keyAt_27 : decode cX2_keyAt 27 = .ok (.iconst 0, 1) := by decide +kernel
theorem dX2_keyAt_28 : decode cX2_keyAt 28 = .ok (.ireturn, 1) := by decide +kernel
theorem dX2_total_0 : decode cX2_total 0 = .ok (.iconst 0, 1) := by decide +kernel
theorem dX2_total_1 : decode cX2_total 1 = .ok (.istore_n 1, 1) := by decide +kernel
theorem dX2_total_2 : decode cX2_total 2 = .ok (.iconst 0, 1) := by decide +kernel
theorem dX2_total_3 : decode cX2_total 3 = .ok (.istore_n 2, 1) := by decide +kernel
theorem dX2_total_4 : decode cX2_total 4 = .ok (.iload_n 2, 1) := by decide +kernel
theorem dX2_total_5 : decode cX2_total 5 = .ok (.aload_n 0, 1) := by decide +kernel
theorem dX2_total_6 : decode cX2_total 6 = .ok (.getfield 9, 3) := by decide +kernel
theorem dX2_total_9 : decode cX2_total 9 = .ok (.arraylength, 1) := by decide +kernel
theorem dX2_total_10 : decode cX2_total 10 = .ok (.if_icmp .ge 23, 3) := by decide +kernel
theorem dX2_total_13 : decode cX2_total 13 = .ok (.aload_n 0, 1) := by decide +kernel
theorem dX2_total_14 : decode cX2_total 14 = .ok (.getfield 9, 3) := by decide +kernel
theorem dX2_total_17 : decode cX2_total 17 = .ok (.iload_n 2, 1) := by decide +kernel
theorem dX2_total_18 : decode cX2_total 18 = .ok (.iaload, 1) := by decide +kernel
theorem dX2_total_19 : decode cX2_total 19 = .ok (.bipush (-100), 2) := by decide +kernel
theorem dX2_total_21 : decode cX2_total 21 = .ok (.if_icmp .eq 6, 3) := by decide +kernel
theorem dX2_total_24 : decode cX2_total 24 = .ok (.iinc 1 1, 3) := by decide +kernel
theorem dX2_total_27 : decode cX2_total 27 = .ok (.iinc 2 1, 3) := by decide +kernel
theorem dX2_total_30 : decode cX2_total 30 = .ok (.goto (-26), 3) := by decide +kernel
theorem dX2_total_33 : decode cX2_total 33 = .ok (.iload_n 1, 1) := by decide +kernel
theorem dX2_total_34 : decode cX2_total 34 = .ok (.ireturn, 1) := by decide +kernel
theorem dX2_isPlace_0 : decode cX2_isPlace 0 = .ok (.iload_n 0, 1) := by decide +kernel
theorem dX2_isPlace_1 : decode cX2_isPlace 1 = .ok (.ifCond .lt 22, 3) := by decide +kernel
theorem dX2_isPlace_4 : decode cX2_isPlace 4 = .ok (.iload_n 0, 1) := by decide +kernel
theorem dX2_isPlace_5 : decode cX2_isPlace 5 = .ok (.bipush 40, 2) := by decide +kernel
theorem dX2_isPlace_7 : decode cX2_isPlace 7 = .ok (.if_icmp .ge 16, 3) := by decide +kernel
theorem dX2_isPlace_10 : decode cX2_isPlace 10 = .ok (.iload_n 1, 1) := by decide +kernel
theorem dX2_isPlace_11 : decode cX2_isPlace 11 = .ok (.ifCond .lt 12, 3) := by decide +kernel
theorem dX2_isPlace_14 : decode cX2_isPlace 14 = .ok (.iload_n 1, 1) := by decide +kernel
theorem dX2_isPlace_15 : decode cX2_isPlace 15 = .ok (.iconst 5, 1) := by decide +kernel
theorem dX2_isPlace_16 : decode cX2_isPlace 16 = .ok (.if_icmp .ge 7, 3) := by decide +kernel
theorem dX2_isPlace_19 : decode cX2_isPlace 19 = .ok (.iconst 1, 1) := by decide +kernel
theorem dX2_isPlace_20 : decode cX2_isPlace 20 = .ok (.goto 4, 3) := by decide +kernel
theorem dX2_isPlace_23 : decode cX2_isPlace 23 = .ok (.iconst 0, 1) := by decide +kernel
theorem dX2_isPlace_24 : decode cX2_isPlace 24 = .ok (.ireturn, 1) := by decide +kernel
theorem kX2_init_9 : Cond.fieldLink RX2 9 (TX2 0).1 (TX2 0).2.1 (TX2 0).2.2.1 ∈ wsX2_init := by decide +kernel
theorem iX2_init_X2 : ∀ w ∈ u_ws RX2 TX2 1, w ∈ wsX2_init := by decide +kernel
theorem kaX2_init_I : Cond.arrayClass .int ∈ wsX2_init := by decide +kernel
theorem kqX2_init : Cond.code objectInit ⟨#[0xb1]⟩ 1 none ∈ wsX2_init := by decide +kernel
theorem kpX2_init : Cond.instanceMethod objectInit ∈ wsX2_init := by decide +kernel
theorem koX2_init : Cond.methodLink RX2 3 objectInit ∈ wsX2_init := by decide +kernel
set_option maxHeartbeats 4000000 in
set_option maxRecDepth 100000 in
theorem RX2_init (l : Launch) (D : va_G) (g : q_A) (S : q_S) (a0 : Nat) (Q : q_S → Prop) (h : wX2_init a0 Q S) : q_Mv l yX2_init wsX2_init rmX2_init D g [.ref a0] S Q := by
  refine q_Mv.of (cc := cX2_init) (nL := 1) (by decide +kernel) rfl (Nat.le_of_ble_eq_true rfl) rfl ?_
  intro p e s m args below meth c ls A C hr hnm hp hl
  have C : q_X p s m args meth c cX2_init 1 RX2 wsX2_init D g A := C
  have hx := C.1
  have hb := C.2.1
  have hl : q_l ls 1 [(0, .ref a0)] := hl
  unfold wX2_init at h
  refine lv_aload_n hx hb dX2_init_0 rfl (q_at hl 0 rfl) ?_
  refine q_objI C koX2_init kpX2_init kqX2_init hl.1.1 dX2_init_1 (Nat.le_of_ble_eq_true rfl) (Nat.le_of_ble_eq_true rfl) ?_
  refine lv_aload_n hx hb dX2_init_4 rfl (q_at hl 0 rfl) ?_
  refine lv_sipush (v := 200) hx hb dX2_init_5 (by decide) ?_
  refine q_rNI (N' := 200) C hp h kaX2_init_I (by decide) (by decide) (by decide) (Nat.le_of_ble_eq_true rfl) (Nat.le_of_ble_eq_true rfl) dX2_init_8 (fun q_1 S_2 H h hp => ?_)
  refine W.widen (k := 1) (n := 200) (Nat.le_of_ble_eq_true rfl) (Nat.le_of_ble_eq_true rfl) ?_
  refine q_fP C hp h hnm tyX2 tyX2_ok nmX2 rfl iX2_init_X2 (by decide) kX2_init_9 rfl rfl rfl rfl rfl dX2_init_10 (fun S_3 H locs h hp => ?_)
  refine lv_aload_n hx hb dX2_init_13 rfl (q_at hl 0 rfl) ?_
  refine q_rGR C hp h rfl iX2_init_X2 (by decide) kX2_init_9 dX2_init_14 (fun r_4 h => ?_)
  refine lv_bipush (v := (-100)) hx hb dX2_init_17 (by decide) ?_
  refine q_finV0 C hp (q_runS (As := [.ref r_4, .int (-100 : Int32)]) (rest := []) C hp (RJ7_fill_53178 l D g _ r_4 (-100 : Int32) _ h _) (va_cwS 2 C.2.2.2.2.1 gX2_init_J7_fill_53178 rfl rfl rfl (by decide +kernel) ⟨(Nat.le_of_ble_eq_true rfl), (Nat.le_of_ble_eq_true rfl)⟩) rfl hl.1.1 rfl (Nat.le_of_ble_eq_true rfl) dX2_init_19 ⟨(Nat.le_of_ble_eq_true rfl), (Nat.le_of_ble_eq_true rfl)⟩) rfl rfl (fun S_5 H locs h hp => ?_)
  refine W.widen (k := rmX2_init.cells) (n := rmX2_init.slots) (Nat.le_of_ble_eq_true rfl) (Nat.le_of_ble_eq_true rfl) ?_
  exact q_vret C hp hr h dX2_init_22

set_option maxHeartbeats 4000000 in
set_option maxRecDepth 100000 in
theorem RX2_isPlace (l : Launch) (D : va_G) (g : q_A) (S : q_S) (x0 : Int32) (x1 : Int32) (Q : Int32 → q_S → Prop) (h : wX2_isPlace x0 x1 Q S) : q_Mi l yX2_isPlace wsX2_isPlace rmX2_isPlace D g [.int x0, .int x1] S Q := by
  refine q_Mi.of (cc := cX2_isPlace) (nL := 2) (rt := .boolean) (by decide +kernel) rfl (Nat.le_of_ble_eq_true rfl) rfl ?_
  intro p e s m args below meth c ls A C hr hnm hp hl
  have C : q_X p s m args meth c cX2_isPlace 2 RX2 wsX2_isPlace D g A := C
  have hx := C.1
  have hb := C.2.1
  have hl : q_l ls 2 [(0, .int x0), (1, .int x1)] := hl
  unfold wX2_isPlace at h
  refine lv_iload_n hx hb dX2_isPlace_0 rfl (q_at hl 0 rfl) ?_
  refine lv_if_lt (tgt := 23) hx hb dX2_isPlace_1 (by decide) (fun c_1 => ?_) (fun c_1 => ?_)
  · have h := h.1 c_1
    refine lv_iconst (v := 0) hx hb dX2_isPlace_23 (by decide) ?_
    exact q_zret C hp hr h dX2_isPlace_24
  · have h := h.2 c_1
    refine lv_iload_n hx hb dX2_isPlace_4 rfl (q_at hl 0 rfl) ?_
    refine lv_bipush (v := 40) hx hb dX2_isPlace_5 (by decide) ?_
    refine lv_icmp_ge (tgt := 23) hx hb dX2_isPlace_7 (by decide) (fun c_2 => ?_) (fun c_2 => ?_)
    · have h := h.1 c_2
      refine lv_iconst (v := 0) hx hb dX2_isPlace_23 (by decide) ?_
      exact q_zret C hp hr h dX2_isPlace_24
    · have h := h.2 c_2
      refine lv_iload_n hx hb dX2_isPlace_10 rfl (q_at hl 1 rfl) ?_
      refine lv_if_lt (tgt := 23) hx hb dX2_isPlace_11 (by decide) (fun c_3 => ?_) (fun c_3 => ?_)
      · have h := h.1 c_3
        refine lv_iconst (v := 0) hx hb dX2_isPlace_23 (by decide) ?_
        exact q_zret C hp hr h dX2_isPlace_24
      · have h := h.2 c_3
        refine lv_iload_n hx hb dX2_isPlace_14 rfl (q_at hl 1 rfl) ?_
        refine lv_iconst (v := 5) hx hb dX2_isPlace_15 (by decide) ?_
        refine lv_icmp_ge (tgt := 23) hx hb dX2_isPlace_16 (by decide) (fun c_4 => ?_) (fun c_4 => ?_)
        · have h := h.1 c_4
          refine lv_iconst (v := 0) hx hb dX2_isPlace_23 (by decide) ?_
          exact q_zret C hp hr h dX2_isPlace_24
        · have h := h.2 c_4
          refine lv_iconst (v := 1) hx hb dX2_isPlace_19 (by decide) ?_
          refine lv_goto (tgt := 24) hx hb dX2_isPlace_20 (by decide) ?_
          exact q_zret C hp hr h dX2_isPlace_24
theorem kX2_replace_9 : Cond.fieldLink RX2 9 (TX2 0).1 (TX2 0).2.1 (TX2 0).2.2.1 ∈ wsX2_replace := by decide +kernel
theorem iX2_replace_X2 : ∀ w ∈ u_ws RX2 TX2 1, w ∈ wsX2_replace := by decide +kernel
set_option maxHeartbeats 4000000 in
set_option maxRecDepth 100000 in
theorem RX2_replace (l : Launch) (D : va_G) (g : q_A) (S : q_S) (a0 : Nat) (x1 : Int32) (x2 : Int32) (x3 : Int32) (Q : Int32 → q_S → Prop) (h : wX2_replace a0 x1 x2 x3 Q S) : q_Mi l yX2_replace wsX2_replace rmX2_replace D g [.ref a0, .int x1, .int x2, .int x3] S Q := by
  refine q_Mi.of (cc := cX2_replace) (nL := 5) (rt := .int) (by decide +kernel) rfl (Nat.le_of_ble_eq_true rfl) rfl ?_
  intro p e s m args below meth c ls A C hr hnm hp hl
  have C : q_X p s m args meth c cX2_replace 5 RX2 wsX2_replace D g A := C
  have hx := C.1
  have hb := C.2.1
  have hl : q_l ls 5 [(0, .ref a0), (1, .int x1), (2, .int x2), (3, .int x3)] := hl
  unfold wX2_replace at h
  have h := h.2
  refine lv_iload_n hx hb dX2_replace_0 rfl (q_at hl 1 rfl) ?_
  refine lv_iload_n hx hb dX2_replace_1 rfl (q_at hl 2 rfl) ?_
  refine q_finI0 C hp (q_runS (As := [.int x1, .int x2]) (rest := []) C hp (RX2_isPlace l D g _ x1 x2 _ h _) (va_cwS 2 C.2.2.2.2.1 gX2_replace_X2_isPlace rfl rfl rfl (by decide +kernel) ⟨(Nat.le_of_ble_eq_true rfl), (Nat.le_of_ble_eq_true rfl)⟩) rfl hl.1.1 rfl (Nat.le_of_ble_eq_true rfl) dX2_replace_2 ⟨(Nat.le_of_ble_eq_true rfl), (Nat.le_of_ble_eq_true rfl)⟩) rfl rfl (fun v_2 S_1 H locs h hp => ?_)
  refine lv_if_ne (tgt := 11) hx hb dX2_replace_5 (by decide) (fun c_3 => ?_) (fun c_3 => ?_)
  · have h := h.1 c_3
    refine lv_aload_n hx hb dX2_replace_11 rfl (q_at hl 0 rfl) ?_
    refine q_rGR C hp h rfl iX2_replace_X2 (by decide) kX2_replace_9 dX2_replace_12 (fun r_4 h => ?_)
    refine lv_iload_n hx hb dX2_replace_15 rfl (q_at hl 1 rfl) ?_
    refine lv_iconst (v := 5) hx hb dX2_replace_16 (by decide) ?_
    refine lv_imul hx hb dX2_replace_17 ?_
    refine lv_iload_n hx hb dX2_replace_18 rfl (q_at hl 2 rfl) ?_
    refine lv_iadd hx hb dX2_replace_19 ?_
    refine q_rLI C hp h dX2_replace_20 (fun v_5 h => ?_)
    refine q_ist (lv' := [(4, .int v_5), (0, .ref a0), (1, .int x1), (2, .int x2), (3, .int x3)]) hx hb dX2_replace_21 hl (by decide) rfl (fun ls hl => ?_)
    refine lv_aload_n hx hb dX2_replace_23 rfl (q_at hl 1 rfl) ?_
    refine q_rGR C hp h rfl iX2_replace_X2 (by decide) kX2_replace_9 dX2_replace_24 (fun r_6 h => ?_)
    refine lv_iload_n hx hb dX2_replace_27 rfl (q_at hl 2 rfl) ?_
    refine lv_iconst (v := 5) hx hb dX2_replace_28 (by decide) ?_
    refine lv_imul hx hb dX2_replace_29 ?_
    refine lv_iload_n hx hb dX2_replace_30 rfl (q_at hl 3 rfl) ?_
    refine lv_iadd hx hb dX2_replace_31 ?_
    refine lv_iload_n hx hb dX2_replace_32 rfl (q_at hl 4 rfl) ?_
    refine q_rSI C hp h dX2_replace_33 (fun S_7 H locs h hp => ?_)
    refine lv_iload hx hb dX2_replace_34 (q_at hl 0 rfl) ?_
    exact q_iret C hp hr h dX2_replace_36
  · have h := h.2 c_3
    refine lv_bipush (v := (-100)) hx hb dX2_replace_8 (by decide) ?_
    exact q_iret C hp hr h dX2_replace_10
theorem kmax4X2_clearFrom : Cond.code Lib.Math.max.name Lib.Math.max.code 2 (some .int) ∈ wsX2_clearFrom := by decide +kernel
theorem kmax3X2_clearFrom : Cond.initialized "java/lang/Math" ∈ wsX2_clearFrom := by decide +kernel
theorem kmax1X2_clearFrom : Cond.methodLink RX2 25 Lib.Math.max.name ∈ wsX2_clearFrom := by decide +kernel
theorem kmax2X2_clearFrom : Cond.static Lib.Math.max.name ∈ wsX2_clearFrom := by decide +kernel
set_option maxHeartbeats 4000000 in
set_option maxRecDepth 100000 in
theorem RX2_clearFrom (l : Launch) (D : va_G) (g : q_A) (S : q_S) (a0 : Nat) (x1 : Int32) (x2 : Int32) (Q : q_S → Prop) (h : wX2_clearFrom a0 x1 x2 Q S) : q_Mv l yX2_clearFrom wsX2_clearFrom rmX2_clearFrom D g [.ref a0, .int x1, .int x2] S Q := by
  refine q_Mv.of (cc := cX2_clearFrom) (nL := 5) (by decide +kernel) rfl (Nat.le_of_ble_eq_true rfl) rfl ?_
  intro p e s m args below meth c ls A C hr hnm hp hl
  have C : q_X p s m args meth c cX2_clearFrom 5 RX2 wsX2_clearFrom D g A := C
  have hx := C.1
  have hb := C.2.1
  have hl : q_l ls 5 [(0, .ref a0), (1, .int x1), (2, .int x2)] := hl
  have j20 : ∀ (k6 : Nat → Int32 → Int32 → q_S → Prop) (ih6 : ∀ (a0 : Nat) (x2 : Int32) (x3 : Int32) (S : q_S) (H : Heap) (locs : List Loc) (ls : Array Slot), k6 a0 x2 x3 S → q_P D g A s.heap S H locs → q_l ls 5 [(0, .ref a0), (2, .int x2), (3, .int x3)] → W p l e rmX2_clearFrom s m args below meth c H locs 0 0 (MQ below (va_Qv Q (q_B D g A) A) args s rmX2_clearFrom.cells rmX2_clearFrom.slots A) (F0 m 6 ls [])) (n : Nat), ∀ (a0 : Nat) (x2 : Int32) (x3 : Int32) (x4 : Int32) (S : q_S) (H : Heap) (locs : List Loc) (ls : Array Slot), lX2_clearFrom_b20 Q k6 n a0 x2 x3 x4 S → q_P D g A s.heap S H locs → q_l ls 5 [(0, .ref a0), (2, .int x2), (3, .int x3), (4, .int x4)] → W p l e rmX2_clearFrom s m args below meth c H locs 0 0 (MQ below (va_Qv Q (q_B D g A) A) args s rmX2_clearFrom.cells rmX2_clearFrom.slots A) (F0 m 20 ls []) := by
    intro k6 ih6
    intro n
    induction n with
    | zero => intro a0 x2 x3 x4 S H locs ls h; exact absurd h (fun h => h)
    | succ n ih20 =>
      intro a0 x2 x3 x4 S H locs ls h hp hl
      have h : wX2_clearFrom_b20 Q k6 (lX2_clearFrom_b20 Q k6 n) a0 x2 x3 x4 S := h
      unfold wX2_clearFrom_b20 at h
      refine lv_iload hx hb dX2_clearFrom_20 (q_at hl 3 rfl) ?_
      refine lv_iconst (v := 5) hx hb dX2_clearFrom_22 (by decide) ?_
      refine lv_icmp_ge (tgt := 42) hx hb dX2_clearFrom_23 (by decide) (fun c_1 => ?_) (fun c_1 => ?_)
      · have h := h.1 c_1
        refine q_inc (x := x3) (v := (x3 + (1 : Int32))) (lv' := [(3, .int (x3 + (1 : Int32))), (0, .ref a0), (2, .int x2), (4, .int x4)]) hx hb dX2_clearFrom_42 hl (k := 2) rfl rfl (by decide) rfl (fun ls hl => ?_)
        refine lv_goto (tgt := 6) hx hb dX2_clearFrom_45 (by decide) ?_
        exact ih6 a0 x2 (x3 + (1 : Int32)) _ _ _ _ h hp (q_sub hl [1, 2, 0] rfl)
      · have h := h.2 c_1
        refine lv_aload_n hx hb dX2_clearFrom_26 rfl (q_at hl 0 rfl) ?_
        refine lv_iload_n hx hb dX2_clearFrom_27 rfl (q_at hl 2 rfl) ?_
        refine lv_iload hx hb dX2_clearFrom_28 (q_at hl 3 rfl) ?_
        refine lv_bipush (v := (-100)) hx hb dX2_clearFrom_30 (by decide) ?_
        refine q_finI0 C hp (q_runV (As := [.int x3, .int x4, .int (-100 : Int32)]) (rest := []) C hp (RX2_replace l D g _ a0 x3 x4 (-100 : Int32) _ h _) (cwV 3 C.2.2.2.2.1 gX2_clearFrom_X2_replace rfl rfl rfl (by decide +kernel) ⟨(Nat.le_of_ble_eq_true rfl), (Nat.le_of_ble_eq_true rfl)⟩) h.1 rfl rfl hl.1.1 rfl (Nat.le_of_ble_eq_true rfl) dX2_clearFrom_32 ⟨(Nat.le_of_ble_eq_true rfl), (Nat.le_of_ble_eq_true rfl)⟩) rfl rfl (fun v_3 S_2 H locs h hp => ?_)
        refine lv_pop hx hb dX2_clearFrom_35 rfl ?_
        refine q_inc (x := x4) (v := (x4 + (1 : Int32))) (lv' := [(4, .int (x4 + (1 : Int32))), (0, .ref a0), (2, .int x2), (3, .int x3)]) hx hb dX2_clearFrom_36 hl (k := 3) rfl rfl (by decide) rfl (fun ls hl => ?_)
        refine lv_goto (tgt := 20) hx hb dX2_clearFrom_39 (by decide) ?_
        exact ih20 a0 x2 x3 (x4 + (1 : Int32)) _ _ _ _ h hp (q_sub hl [1, 2, 3, 0] rfl)
  have j6 : ∀ (n : Nat), ∀ (a0 : Nat) (x2 : Int32) (x3 : Int32) (S : q_S) (H : Heap) (locs : List Loc) (ls : Array Slot), lX2_clearFrom_b6 Q n a0 x2 x3 S → q_P D g A s.heap S H locs → q_l ls 5 [(0, .ref a0), (2, .int x2), (3, .int x3)] → W p l e rmX2_clearFrom s m args below meth c H locs 0 0 (MQ below (va_Qv Q (q_B D g A) A) args s rmX2_clearFrom.cells rmX2_clearFrom.slots A) (F0 m 6 ls []) := by
    intro n
    induction n with
    | zero => intro a0 x2 x3 S H locs ls h; exact absurd h (fun h => h)
    | succ n ih6 =>
      intro a0 x2 x3 S H locs ls h hp hl
      have h : wX2_clearFrom_b6 Q (lX2_clearFrom_b6 Q n) a0 x2 x3 S := h
      unfold wX2_clearFrom_b6 at h
      refine lv_iload_n hx hb dX2_clearFrom_6 rfl (q_at hl 2 rfl) ?_
      refine lv_iload_n hx hb dX2_clearFrom_7 rfl (q_at hl 1 rfl) ?_
      refine lv_icmp_ge (tgt := 48) hx hb dX2_clearFrom_8 (by decide) (fun c_4 => ?_) (fun c_4 => ?_)
      · have h := h.1 c_4
        exact q_vret C hp hr h dX2_clearFrom_48
      · have h := h.2 c_4
        refine lv_iload_n hx hb dX2_clearFrom_11 rfl (q_at hl 2 rfl) ?_
        refine lv_bipush (v := 40) hx hb dX2_clearFrom_12 (by decide) ?_
        refine lv_icmp_ge (tgt := 48) hx hb dX2_clearFrom_14 (by decide) (fun c_5 => ?_) (fun c_5 => ?_)
        · have h := h.1 c_5
          exact q_vret C hp hr h dX2_clearFrom_48
        · have h := h.2 c_5
          refine lv_iconst (v := 0) hx hb dX2_clearFrom_17 (by decide) ?_
          refine q_ist (lv' := [(4, .int (0 : Int32)), (0, .ref a0), (2, .int x2), (3, .int x3)]) hx hb dX2_clearFrom_18 hl (by decide) rfl (fun ls hl => ?_)
          exact j20 (lX2_clearFrom_b6 Q n) ih6 q_fuel a0 x2 x3 (0 : Int32) _ _ _ _ h hp (q_sub hl [1, 2, 3, 0] rfl)
  unfold wX2_clearFrom at h
  have h := h.2
  refine lv_iconst (v := 0) hx hb dX2_clearFrom_0 (by decide) ?_
  refine lv_iload_n hx hb dX2_clearFrom_1 rfl (q_at hl 1 rfl) ?_
  refine q_max C hl.1.1 kmax1X2_clearFrom kmax2X2_clearFrom kmax3X2_clearFrom kmax4X2_clearFrom (Nat.le_of_ble_eq_true rfl) (Nat.le_of_ble_eq_true rfl) (Nat.zero_le _) (Nat.zero_le _) dX2_clearFrom_2 ?_
  refine q_istn (lv' := [(3, .int (if (0 : Int32) < x1 then x1 else (0 : Int32))), (0, .ref a0), (1, .int x1), (2, .int x2)]) hx hb dX2_clearFrom_5 rfl hl (by decide) rfl (fun ls hl => ?_)
  exact j6 q_fuel a0 x2 (if (0 : Int32) < x1 then x1 else (0 : Int32)) _ _ _ _ h hp (q_sub hl [1, 3, 0] rfl)
theorem kX2_valueAt_9 : Cond.fieldLink RX2 9 (TX2 0).1 (TX2 0).2.1 (TX2 0).2.2.1 ∈ wsX2_valueAt := by decide +kernel
theorem iX2_valueAt_X2 : ∀ w ∈ u_ws RX2 TX2 1, w ∈ wsX2_valueAt := by decide +kernel
set_option maxHeartbeats 4000000 in
set_option maxRecDepth 100000 in
theorem RX2_valueAt (l : Launch) (D : va_G) (g : q_A) (S : q_S) (a0 : Nat) (x1 : Int32) (x2 : Int32) (Q : Int32 → q_S → Prop) (h : wX2_valueAt a0 x1 x2 Q S) : q_Mi l yX2_valueAt wsX2_valueAt rmX2_valueAt D g [.ref a0, .int x1, .int x2] S Q := by
  refine q_Mi.of (cc := cX2_valueAt) (nL := 3) (rt := .int) (by decide +kernel) rfl (Nat.le_of_ble_eq_true rfl) rfl ?_
  intro p e s m args below meth c ls A C hr hnm hp hl
  have C : q_X p s m args meth c cX2_valueAt 3 RX2 wsX2_valueAt D g A := C
  have hx := C.1
  have hb := C.2.1
  have hl : q_l ls 3 [(0, .ref a0), (1, .int x1), (2, .int x2)] := hl
  unfold wX2_valueAt at h
  have h := h.2
  refine lv_iload_n hx hb dX2_valueAt_0 rfl (q_at hl 1 rfl) ?_
  refine lv_iload_n hx hb dX2_valueAt_1 rfl (q_at hl 2 rfl) ?_
  refine q_finI0 C hp (q_runS (As := [.int x1, .int x2]) (rest := []) C hp (RX2_isPlace l D g _ x1 x2 _ h _) (va_cwS 2 C.2.2.2.2.1 gX2_valueAt_X2_isPlace rfl rfl rfl (by decide +kernel) ⟨(Nat.le_of_ble_eq_true rfl), (Nat.le_of_ble_eq_true rfl)⟩) rfl hl.1.1 rfl (Nat.le_of_ble_eq_true rfl) dX2_valueAt_2 ⟨(Nat.le_of_ble_eq_true rfl), (Nat.le_of_ble_eq_true rfl)⟩) rfl rfl (fun v_2 S_1 H locs h hp => ?_)
  refine lv_if_eq (tgt := 21) hx hb dX2_valueAt_5 (by decide) (fun c_3 => ?_) (fun c_3 => ?_)
  · have h := h.1 c_3
    refine lv_bipush (v := (-100)) hx hb dX2_valueAt_21 (by decide) ?_
    exact q_iret C hp hr h dX2_valueAt_23
  · have h := h.2 c_3
    refine lv_aload_n hx hb dX2_valueAt_8 rfl (q_at hl 0 rfl) ?_
    refine q_rGR C hp h rfl iX2_valueAt_X2 (by decide) kX2_valueAt_9 dX2_valueAt_9 (fun r_4 h => ?_)
    refine lv_iload_n hx hb dX2_valueAt_12 rfl (q_at hl 1 rfl) ?_
    refine lv_iconst (v := 5) hx hb dX2_valueAt_13 (by decide) ?_
    refine lv_imul hx hb dX2_valueAt_14 ?_
    refine lv_iload_n hx hb dX2_valueAt_15 rfl (q_at hl 2 rfl) ?_
    refine lv_iadd hx hb dX2_valueAt_16 ?_
    refine q_rLI C hp h dX2_valueAt_17 (fun v_5 h => ?_)
    refine lv_goto (tgt := 23) hx hb dX2_valueAt_18 (by decide) ?_
    exact q_iret C hp hr h dX2_valueAt_23

set_option maxHeartbeats 4000000 in
set_option maxRecDepth 100000 in
theorem RX2_isNeeded (l : Launch) (D : va_G) (g : q_A) (S : q_S) (a0 : Nat) (x1 : Int32) (Q : Int32 → q_S → Prop) (h : wX2_isNeeded a0 x1 Q S) : q_Mi l yX2_isNeeded wsX2_isNeeded rmX2_isNeeded D g [.ref a0, .int x1] S Q := by
  refine q_Mi.of (cc := cX2_isNeeded) (nL := 3) (rt := .boolean) (by decide +kernel) rfl (Nat.le_of_ble_eq_true rfl) rfl ?_
  intro p e s m args below meth c ls A C hr hnm hp hl
  have C : q_X p s m args meth c cX2_isNeeded 3 RX2 wsX2_isNeeded D g A := C
  have hx := C.1
  have hb := C.2.1
  have hl : q_l ls 3 [(0, .ref a0), (1, .int x1)] := hl
  have j25 : ∀ (k2 : Nat → Int32 → Int32 → q_S → Prop) (ih2 : ∀ (a0 : Nat) (x1 : Int32) (x2 : Int32) (S : q_S) (H : Heap) (locs : List Loc) (ls : Array Slot), k2 a0 x1 x2 S → q_P D g A s.heap S H locs → q_l ls 3 [(0, .ref a0), (1, .int x1), (2, .int x2)] → W p l e rmX2_isNeeded s m args below meth c H locs 0 0 (MQ below (va_Qi Q (q_B D g A) A) args s rmX2_isNeeded.cells rmX2_isNeeded.slots A) (F0 m 2 ls [])) (a0 : Nat) (x1 : Int32) (x2 : Int32) (S : q_S) (H : Heap) (locs : List Loc) (ls : Array Slot), wX2_isNeeded_b25 Q k2 a0 x1 x2 S → q_P D g A s.heap S H locs → q_l ls 3 [(0, .ref a0), (1, .int x1), (2, .int x2)] → W p l e rmX2_isNeeded s m args below meth c H locs 0 0 (MQ below (va_Qi Q (q_B D g A) A) args s rmX2_isNeeded.cells rmX2_isNeeded.slots A) (F0 m 25 ls []) := by
    intro k2 ih2 a0 x1 x2 S H locs ls h hp hl
    unfold wX2_isNeeded_b25 at h
    refine q_inc (x := x2) (v := (x2 + (1 : Int32))) (lv' := [(2, .int (x2 + (1 : Int32))), (0, .ref a0), (1, .int x1)]) hx hb dX2_isNeeded_25 hl (k := 2) rfl rfl (by decide) rfl (fun ls hl => ?_)
    refine lv_goto (tgt := 2) hx hb dX2_isNeeded_28 (by decide) ?_
    exact ih2 a0 x1 (x2 + (1 : Int32)) _ _ _ _ h hp (q_sub hl [1, 2, 0] rfl)
  have j2 : ∀ (n : Nat), ∀ (a0 : Nat) (x1 : Int32) (x2 : Int32) (S : q_S) (H : Heap) (locs : List Loc) (ls : Array Slot), lX2_isNeeded_b2 Q n a0 x1 x2 S → q_P D g A s.heap S H locs → q_l ls 3 [(0, .ref a0), (1, .int x1), (2, .int x2)] → W p l e rmX2_isNeeded s m args below meth c H locs 0 0 (MQ below (va_Qi Q (q_B D g A) A) args s rmX2_isNeeded.cells rmX2_isNeeded.slots A) (F0 m 2 ls []) := by
    intro n
    induction n with
    | zero => intro a0 x1 x2 S H locs ls h; exact absurd h (fun h => h)
    | succ n ih2 =>
      intro a0 x1 x2 S H locs ls h hp hl
      have h : wX2_isNeeded_b2 Q (lX2_isNeeded_b2 Q n) a0 x1 x2 S := h
      unfold wX2_isNeeded_b2 at h
      refine lv_iload_n hx hb dX2_isNeeded_2 rfl (q_at hl 2 rfl) ?_
      refine lv_iconst (v := 5) hx hb dX2_isNeeded_3 (by decide) ?_
      refine lv_icmp_ge (tgt := 31) hx hb dX2_isNeeded_4 (by decide) (fun c_1 => ?_) (fun c_1 => ?_)
      · have h := h.1 c_1
        refine lv_iconst (v := 0) hx hb dX2_isNeeded_31 (by decide) ?_
        exact q_zret C hp hr h dX2_isNeeded_32
      · have h := h.2 c_1
        refine lv_iload_n hx hb dX2_isNeeded_7 rfl (q_at hl 2 rfl) ?_
        refine lv_iconst (v := 4) hx hb dX2_isNeeded_8 (by decide) ?_
        refine lv_icmp_eq (tgt := 25) hx hb dX2_isNeeded_9 (by decide) (fun c_2 => ?_) (fun c_2 => ?_)
        · have h := h.1 c_2
          exact j25 (lX2_isNeeded_b2 Q n) ih2 a0 x1 x2 _ _ _ _ h hp (q_sub hl [0, 1, 2] rfl)
        · have h := h.2 c_2
          refine lv_aload_n hx hb dX2_isNeeded_12 rfl (q_at hl 0 rfl) ?_
          refine lv_iload_n hx hb dX2_isNeeded_13 rfl (q_at hl 1 rfl) ?_
          refine lv_iload_n hx hb dX2_isNeeded_14 rfl (q_at hl 2 rfl) ?_
          refine q_finI0 C hp (q_runV (As := [.int x1, .int x2]) (rest := []) C hp (RX2_valueAt l D g _ a0 x1 x2 _ h _) (cwV 2 C.2.2.2.2.1 gX2_isNeeded_X2_valueAt rfl rfl rfl (by decide +kernel) ⟨(Nat.le_of_ble_eq_true rfl), (Nat.le_of_ble_eq_true rfl)⟩) h.1 rfl rfl hl.1.1 rfl (Nat.le_of_ble_eq_true rfl) dX2_isNeeded_15 ⟨(Nat.le_of_ble_eq_true rfl), (Nat.le_of_ble_eq_true rfl)⟩) rfl rfl (fun v_4 S_3 H locs h hp => ?_)
          refine lv_bipush (v := (-100)) hx hb dX2_isNeeded_18 (by decide) ?_
          refine lv_icmp_eq (tgt := 25) hx hb dX2_isNeeded_20 (by decide) (fun c_5 => ?_) (fun c_5 => ?_)
          · have h := h.1 c_5
            exact j25 (lX2_isNeeded_b2 Q n) ih2 a0 x1 x2 _ _ _ _ h hp (q_sub hl [0, 1, 2] rfl)
          · have h := h.2 c_5
            refine lv_iconst (v := 1) hx hb dX2_isNeeded_23 (by decide) ?_
            exact q_zret C hp hr h dX2_isNeeded_24
  unfold wX2_isNeeded at h
  have h := h.2
  refine lv_iconst (v := 0) hx hb dX2_isNeeded_0 (by decide) ?_
  refine q_istn (lv' := [(2, .int (0 : Int32)), (0, .ref a0), (1, .int x1)]) hx hb dX2_isNeeded_1 rfl hl (by decide) rfl (fun ls hl => ?_)
  exact j2 q_fuel a0 x1 (0 : Int32) _ _ _ _ h hp (q_sub hl [1, 2, 0] rfl)

set_option maxHeartbeats 4000000 in
set_option maxRecDepth 100000 in
theorem RX2_keyAt (l : Launch) (D : va_G) (g : q_A) (S : q_S) (a0 : Nat) (x1 : Int32) (Q : Int32 → q_S → Prop) (h : wX2_keyAt a0 x1 Q S) : q_Mi l yX2_keyAt wsX2_keyAt rmX2_keyAt D g [.ref a0, .int x1] S Q := by
  refine q_Mi.of (cc := cX2_keyAt) (nL := 4) (rt := .int) (by decide +kernel) rfl (Nat.le_of_ble_eq_true rfl) rfl ?_
  intro p e s m args below meth c ls A C hr hnm hp hl
  have C : q_X p s m args meth c cX2_keyAt 4 RX2 wsX2_keyAt D g A := C
  have hx := C.1
  have hb := C.2.1
  have hl : q_l ls 4 [(0, .ref a0), (1, .int x1)] := hl
  have j2 : ∀ (n : Nat), ∀ (a0 : Nat) (x2 : Int32) (S : q_S) (H : Heap) (locs : List Loc) (ls : Array Slot), lX2_keyAt_b2 Q n a0 x2 S → q_P D g A s.heap S H locs → q_l ls 4 [(0, .ref a0), (2, .int x2)] → W p l e rmX2_keyAt s m args below meth c H locs 0 0 (MQ below (va_Qi Q (q_B D g A) A) args s rmX2_keyAt.cells rmX2_keyAt.slots A) (F0 m 2 ls []) := by
    intro n
    induction n with
    | zero => intro a0 x2 S H locs ls h; exact absurd h (fun h => h)
    | succ n ih2 =>
      intro a0 x2 S H locs ls h hp hl
      have h : wX2_keyAt_b2 Q (lX2_keyAt_b2 Q n) a0 x2 S := h
      unfold wX2_keyAt_b2 at h
      refine lv_iload_n hx hb dX2_keyAt_2 rfl (q_at hl 1 rfl) ?_
      refine lv_if_lt (tgt := 27) hx hb dX2_keyAt_3 (by decide) (fun c_1 => ?_) (fun c_1 => ?_)
      · have h := h.1 c_1
        refine lv_iconst (v := 0) hx hb dX2_keyAt_27 (by decide) ?_
        exact q_iret C hp hr h dX2_keyAt_28
      · have h := h.2 c_1
        refine lv_aload_n hx hb dX2_keyAt_6 rfl (q_at hl 0 rfl) ?_
        refine lv_iload_n hx hb dX2_keyAt_7 rfl (q_at hl 1 rfl) ?_
        refine lv_iconst (v := 0) hx hb dX2_keyAt_8 (by decide) ?_
        refine q_finI0 C hp (q_runV (As := [.int x2, .int (0 : Int32)]) (rest := []) C hp (RX2_valueAt l D g _ a0 x2 (0 : Int32) _ h _) (cwV 2 C.2.2.2.2.1 gX2_keyAt_X2_valueAt rfl rfl rfl (by decide +kernel) ⟨(Nat.le_of_ble_eq_true rfl), (Nat.le_of_ble_eq_true rfl)⟩) h.1 rfl rfl hl.1.1 rfl (Nat.le_of_ble_eq_true rfl) dX2_keyAt_9 ⟨(Nat.le_of_ble_eq_true rfl), (Nat.le_of_ble_eq_true rfl)⟩) rfl rfl (fun v_3 S_2 H locs h hp => ?_)
        refine q_istn (lv' := [(3, .int v_3), (0, .ref a0), (2, .int x2)]) hx hb dX2_keyAt_12 rfl hl (by decide) rfl (fun ls hl => ?_)
        refine lv_iload_n hx hb dX2_keyAt_13 rfl (q_at hl 0 rfl) ?_
        refine lv_bipush (v := (-100)) hx hb dX2_keyAt_14 (by decide) ?_
        refine lv_icmp_eq (tgt := 21) hx hb dX2_keyAt_16 (by decide) (fun c_4 => ?_) (fun c_4 => ?_)
        · have h := h.1 c_4
          refine q_inc (x := x2) (v := (x2 + (-1 : Int32))) (lv' := [(2, .int (x2 + (-1 : Int32))), (3, .int v_3), (0, .ref a0)]) hx hb dX2_keyAt_21 hl (k := 2) rfl rfl (by decide) rfl (fun ls hl => ?_)
          refine lv_goto (tgt := 2) hx hb dX2_keyAt_24 (by decide) ?_
          exact ih2 a0 (x2 + (-1 : Int32)) _ _ _ _ h hp (q_sub hl [2, 0] rfl)
        · have h := h.2 c_4
          refine lv_iload_n hx hb dX2_keyAt_19 rfl (q_at hl 0 rfl) ?_
          exact q_iret C hp hr h dX2_keyAt_20
  unfold wX2_keyAt at h
  have h := h.2
  refine lv_iload_n hx hb dX2_keyAt_0 rfl (q_at hl 1 rfl) ?_
  refine q_istn (lv' := [(2, .int x1), (0, .ref a0), (1, .int x1)]) hx hb dX2_keyAt_1 rfl hl (by decide) rfl (fun ls hl => ?_)
  exact j2 q_fuel a0 x1 _ _ _ _ h hp (q_sub hl [1, 0] rfl)
theorem kX2_total_9 : Cond.fieldLink RX2 9 (TX2 0).1 (TX2 0).2.1 (TX2 0).2.2.1 ∈ wsX2_total := by decide +kernel
theorem iX2_total_X2 : ∀ w ∈ u_ws RX2 TX2 1, w ∈ wsX2_total := by decide +kernel
set_option maxHeartbeats 4000000 in
set_option maxRecDepth 100000 in
theorem RX2_total (l : Launch) (D : va_G) (g : q_A) (S : q_S) (a0 : Nat) (Q : Int32 → q_S → Prop) (h : wX2_total a0 Q S) : q_Mi l yX2_total wsX2_total rmX2_total D g [.ref a0] S Q := by
  refine q_Mi.of (cc := cX2_total) (nL := 3) (rt := .int) (by decide +kernel) rfl (Nat.le_of_ble_eq_true rfl) rfl ?_
  intro p e s m args below meth c ls A C hr hnm hp hl
  have C : q_X p s m args meth c cX2_total 3 RX2 wsX2_total D g A := C
  have hx := C.1
  have hb := C.2.1
  have hl : q_l ls 3 [(0, .ref a0)] := hl
  have j27 : ∀ (k4 : Nat → Int32 → Int32 → q_S → Prop) (ih4 : ∀ (a0 : Nat) (x1 : Int32) (x2 : Int32) (S : q_S) (H : Heap) (locs : List Loc) (ls : Array Slot), k4 a0 x1 x2 S → q_P D g A s.heap S H locs → q_l ls 3 [(0, .ref a0), (1, .int x1), (2, .int x2)] → W p l e rmX2_total s m args below meth c H locs 0 0 (MQ below (va_Qi Q (q_B D g A) A) args s rmX2_total.cells rmX2_total.slots A) (F0 m 4 ls [])) (a0 : Nat) (x1 : Int32) (x2 : Int32) (S : q_S) (H : Heap) (locs : List Loc) (ls : Array Slot), wX2_total_b27 Q k4 a0 x1 x2 S → q_P D g A s.heap S H locs → q_l ls 3 [(0, .ref a0), (1, .int x1), (2, .int x2)] → W p l e rmX2_total s m args below meth c H locs 0 0 (MQ below (va_Qi Q (q_B D g A) A) args s rmX2_total.cells rmX2_total.slots A) (F0 m 27 ls []) := by
    intro k4 ih4 a0 x1 x2 S H locs ls h hp hl
    unfold wX2_total_b27 at h
    refine q_inc (x := x2) (v := (x2 + (1 : Int32))) (lv' := [(2, .int (x2 + (1 : Int32))), (0, .ref a0), (1, .int x1)]) hx hb dX2_total_27 hl (k := 2) rfl rfl (by decide) rfl (fun ls hl => ?_)
    refine lv_goto (tgt := 4) hx hb dX2_total_30 (by decide) ?_
    exact ih4 a0 x1 (x2 + (1 : Int32)) _ _ _ _ h hp (q_sub hl [1, 2, 0] rfl)
  have j4 : ∀ (n : Nat), ∀ (a0 : Nat) (x1 : Int32) (x2 : Int32) (S : q_S) (H : Heap) (locs : List Loc) (ls : Array Slot), lX2_total_b4 Q n a0 x1 x2 S → q_P D g A s.heap S H locs → q_l ls 3 [(0, .ref a0), (1, .int x1), (2, .int x2)] → W p l e rmX2_total s m args below meth c H locs 0 0 (MQ below (va_Qi Q (q_B D g A) A) args s rmX2_total.cells rmX2_total.slots A) (F0 m 4 ls []) := by
    intro n
    induction n with
    | zero => intro a0 x1 x2 S H locs ls h; exact absurd h (fun h => h)
    | succ n ih4 =>
      intro a0 x1 x2 S H locs ls h hp hl
      have h : wX2_total_b4 Q (lX2_total_b4 Q n) a0 x1 x2 S := h
      unfold wX2_total_b4 at h
      refine lv_iload_n hx hb dX2_total_4 rfl (q_at hl 2 rfl) ?_
      refine lv_aload_n hx hb dX2_total_5 rfl (q_at hl 0 rfl) ?_
      refine q_rGR C hp h rfl iX2_total_X2 (by decide) kX2_total_9 dX2_total_6 (fun r_1 h => ?_)
      refine q_rLN C hp h dX2_total_9 (fun v_2 h => ?_)
      refine lv_icmp_ge (tgt := 33) hx hb dX2_total_10 (by decide) (fun c_3 => ?_) (fun c_3 => ?_)
      · have h := h.1 c_3
        refine lv_iload_n hx hb dX2_total_33 rfl (q_at hl 1 rfl) ?_
        exact q_iret C hp hr h dX2_total_34
      · have h := h.2 c_3
        refine lv_aload_n hx hb dX2_total_13 rfl (q_at hl 0 rfl) ?_
        refine q_rGR C hp h rfl iX2_total_X2 (by decide) kX2_total_9 dX2_total_14 (fun r_4 h => ?_)
        refine lv_iload_n hx hb dX2_total_17 rfl (q_at hl 2 rfl) ?_
        refine q_rLI C hp h dX2_total_18 (fun v_5 h => ?_)
        refine lv_bipush (v := (-100)) hx hb dX2_total_19 (by decide) ?_
        refine lv_icmp_eq (tgt := 27) hx hb dX2_total_21 (by decide) (fun c_6 => ?_) (fun c_6 => ?_)
        · have h := h.1 c_6
          exact j27 (lX2_total_b4 Q n) ih4 a0 x1 x2 _ _ _ _ h hp (q_sub hl [0, 1, 2] rfl)
        · have h := h.2 c_6
          refine q_inc (x := x1) (v := (x1 + (1 : Int32))) (lv' := [(1, .int (x1 + (1 : Int32))), (0, .ref a0), (2, .int x2)]) hx hb dX2_total_24 hl (k := 1) rfl rfl (by decide) rfl (fun ls hl => ?_)
          exact j27 (lX2_total_b4 Q n) ih4 a0 (x1 + (1 : Int32)) x2 _ _ _ _ h hp (q_sub hl [1, 0, 2] rfl)
  unfold wX2_total at h
  have h := h.2
  refine lv_iconst (v := 0) hx hb dX2_total_0 (by decide) ?_
  refine q_istn (lv' := [(1, .int (0 : Int32)), (0, .ref a0)]) hx hb dX2_total_1 rfl hl (by decide) rfl (fun ls hl => ?_)
  refine lv_iconst (v := 0) hx hb dX2_total_2 (by decide) ?_
  refine q_istn (lv' := [(2, .int (0 : Int32)), (1, .int (0 : Int32)), (0, .ref a0)]) hx hb dX2_total_3 rfl hl (by decide) rfl (fun ls hl => ?_)
  exact j4 q_fuel a0 (0 : Int32) (0 : Int32) _ _ _ _ h hp (q_sub hl [2, 1, 0] rfl)
