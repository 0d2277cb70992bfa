set_option maxRecDepth 20000 in
theorem ggX6_init_X3_init : GoodIn wsX6_init wsX3_init := goodIn_r _ [10, 11, 2, 3, 12, 13, 14, 15, 16] (by decide +kernel) (by decide +kernel)
set_option maxRecDepth 20000 in
theorem gX6_init_X3_init_n11 : GoodIn wsX6_init (wsX3_init) := ggX6_init_X3_init
theorem dX6_init_0 : decode cX6_init 0 = .ok (.aload_n 0, 1) := by decide +kernel
theorem dX6_init_1 : decode cX6_init 1 = .ok (.invokespecial 3, 3) := by decide +kernel
theorem dX6_init_4 : decode cX6_init 4 = .ok (.aload_n 0, 1) := by decide +kernel
theorem dX6_init_5 : decode cX6_init 5 = .ok (.new 9, 3) := by decide +kernel
theorem dX6_init_8 : decode cX6_init 8 = .ok (.dup, 1) := by decide +kernel
theorem dX6_init_9 : decode cX6_init 9 = .ok (.invokespecial 11, 3) := by decide +kernel
theorem dX6_init_12 : decode cX6_init 12 = .ok (.putfield 12, 3) := by decide +kernel
theorem dX6_init_15 : decode cX6_init 15 = .ok (.aload_n 0, 1) := by decide +kernel
theorem dX6_init_16 : decode cX6_init 16 = .ok (.iload_n 1, 1) := by decide +kernel
theorem dX6_init_17 : decode cX6_init 17 = .ok (.putfield 18, 3) := by decide +kernel
theorem dX6_init_20 : decode cX6_init 20 = .ok (.return_, 1) := by decide +kernel
set_option maxRecDepth 20000 in
theorem ggX6_pitchFor_J9_floorMod_7cf53 : GoodIn wsX6_pitchFor wsJ9_floorMod_7cf53 := goodIn_r _ [6] (by decide +kernel) (by decide +kernel)
set_option maxRecDepth 20000 in
theorem gX6_pitchFor_J9_floorMod_7cf53 : GoodIn wsX6_pitchFor (va_wsS RX6 25 yJ9_floorMod_7cf53 wsJ9_floorMod_7cf53) := goodIn_app (goodIn_of _ (by decide +kernel)) ggX6_pitchFor_J9_floorMod_7cf53
theorem dX6_pitchFor_0 : decode cX6_pitchFor 0 = .ok (.bipush 7, 2) := by decide +kernel
theorem dX6_pitchFor_2 : decode cX6_pitchFor 2 = .ok (.aload_n 0, 1) := by decide +kernel
theorem dX6_pitchFor_3 : decode cX6_pitchFor 3 = .ok (.getfield 22, 3) := by decide +kernel
theorem dX6_pitchFor_6 : decode cX6_pitchFor 6 = .ok (.imul, 1) := by decide +kernel
theorem dX6_pitchFor_7 : decode cX6_pitchFor 7 = .ok (.bipush 12, 2) := by decide +kernel
theorem dX6_pitchFor_9 : decode cX6_pitchFor 9 = .ok (.invokestatic 25, 3) := by decide +kernel
theorem dX6_pitchFor_12 : decode cX6_pitchFor 12 = .ok (.istore_n 2, 1) := by decide +kernel
theorem dX6_pitchFor_13 : decode cX6_pitchFor 13 = .ok (.iload_n 1, 1) := by decide +kernel
theorem dX6_pitchFor_14 : decode cX6_pitchFor 14 = .ok (.iload_n 2, 1) := by decide +kernel
theorem dX6_pitchFor_15 : decode cX6_pitchFor 15 = .ok (.bipush 6, 2) := by decide +kernel
theorem dX6_pitchFor_17 : decode cX6_pitchFor 17 = .ok (.if_icmp .le 10, 3) := by decide +kernel
theorem dX6_pitchFor_20 : decode cX6_pitchFor 20 = .ok (.iload_n 2, 1) := by decide +kernel
theorem dX6_pitchFor_21 : decode cX6_pitchFor 21 = .ok (.bipush 12, 2) := by decide +kernel
theorem dX6_pitchFor_23 : decode cX6_pitchFor 23 = .ok (.isub, 1) := by decide +kernel
theorem dX6_pitchFor_24 : decode cX6_pitchFor 24 = .ok (.goto 4, 3) := by decide +kernel
theorem dX6_pitchFor_27 : decode cX6_pitchFor 27 = .ok (.iload_n 2, 1) := by decide +kernel
theorem dX6_pitchFor_28 : decode cX6_pitchFor 28 = .ok (.iadd, 1) := by decide +kernel
theorem dX6_pitchFor_29 : decode cX6_pitchFor 29 = .ok (.bipush 12, 2) := by decide +kernel
theorem dX6_pitchFor_31 : decode cX6_pitchFor 31 = .ok (.aload_n 0, 1) := by decide +kernel
theorem dX6_pitchFor_32 : decode cX6_pitchFor 32 = .ok (.getfield 31, 3) := by decide +kernel
theorem dX6_pitchFor_35 : decode cX6_pitchFor 35 = .ok (.imul, 1) := by decide +kernel
theorem dX6_pitchFor_36 : decode cX6_pitchFor 36 = .ok (.iadd, 1) := by decide +kernel
theorem dX6_pitchFor_37 : decode cX6_pitchFor 37 = .ok (.ireturn, 1) := by decide +kernel
set_option maxRecDepth 20000 in
theorem ggX6_keyFor_X6_keyTurn : GoodIn wsX6_keyFor wsX6_keyTurn := goodIn_r _ [6, 1, 7, 8, 9, 10, 11] (by decide +kernel) (by decide +kernel)
set_option maxRecDepth 20000 in
theorem gX6_keyFor_X6_keyTurn : GoodIn wsX6_keyFor (wsV RX6 34 RX6 yX6_keyTurn wsX6_keyTurn) := goodIn_app (goodIn_of _ (by decide +kernel)) ggX6_keyFor_X6_keyTurn
theorem dX6_keyFor_0 : decode cX6_keyFor 0 = .ok (.iload_n 1, 1) := by decide +kernel
theorem dX6_keyFor_1 : decode cX6_keyFor 1 = .ok (.aload_n 0, 1) := by decide +kernel
theorem dX6_keyFor_2 : decode cX6_keyFor 2 = .ok (.getfield 22, 3) := by decide +kernel
theorem dX6_keyFor_5 : decode cX6_keyFor 5 = .ok (.iadd, 1) := by decide +kernel
theorem dX6_keyFor_6 : decode cX6_keyFor 6 = .ok (.aload_n 0, 1) := by decide +kernel
theorem dX6_keyFor_7 : decode cX6_keyFor 7 = .ok (.iload_n 1, 1) := by decide +kernel
theorem dX6_keyFor_8 : decode cX6_keyFor 8 = .ok (.invokevirtual 34, 3) := by decide +kernel
theorem dX6_keyFor_11 : decode cX6_keyFor 11 = .ok (.iadd, 1) := by decide +kernel
theorem dX6_keyFor_12 : decode cX6_keyFor 12 = .ok (.ireturn, 1) := by decide +kernel
set_option maxRecDepth 20000 in
theorem ggX6_spellingFor_X6_keyTurn : GoodIn wsX6_spellingFor wsX6_keyTurn := goodIn_r _ [6, 1, 7, 8, 9, 10, 11] (by decide +kernel) (by decide +kernel)
set_option maxRecDepth 20000 in
theorem gX6_spellingFor_X6_keyTurn : GoodIn wsX6_spellingFor (wsV RX6 34 RX6 yX6_keyTurn wsX6_keyTurn) := goodIn_app (goodIn_of _ (by decide +kernel)) ggX6_spellingFor_X6_keyTurn
theorem dX6_spellingFor_0 : decode cX6_spellingFor 0 = .ok (.iload_n 1, 1) := by decide +kernel
theorem dX6_spellingFor_1 : decode cX6_spellingFor 1 = .ok (.aload_n 0, 1) := by decide +kernel
theorem dX6_spellingFor_2 : decode cX6_spellingFor 2 = .ok (.getfield 22, 3) := by decide +kernel
theorem dX6_spellingFor_5 : decode cX6_spellingFor 5 = .ok (.iadd, 1) := by decide +kernel
theorem dX6_spellingFor_6 : decode cX6_spellingFor 6 = .ok (.aload_n 0, 1) := by decide +kernel
theorem dX6_spellingFor_7 : decode cX6_spellingFor 7 = .ok (.iload_n 2, 1) := by decide +kernel
theorem dX6_spellingFor_8 : decode cX6_spellingFor 8 = .ok (.invokevirtual 34, 3) := by decide +kernel
theorem dX6_spellingFor_11 : decode cX6_spellingFor 11 = .ok (.iadd, 1) := by decide +kernel
theorem dX6_spellingFor_12 : decode cX6_spellingFor 12 = .ok (.istore_n 3, 1) := by decide +kernel
theorem dX6_spellingFor_13 : decode cX6_spellingFor 13 = .ok (.iload_n 3, 1) := by decide +kernel
theorem dX6_spellingFor_14 : decode cX6_spellingFor 14 = .ok (.bipush 19, 2) := by decide +kernel
theorem dX6_spellingFor_16 : decode cX6_spellingFor 16 = .ok (.if_icmp .le 9, 3) := by decide +kernel
theorem dX6_spellingFor_19 : decode cX6_spellingFor 19 = .ok (.iinc 3 (-12), 3) := by decide +kernel
theorem dX6_spellingFor_22 : decode cX6_spellingFor 22 = .ok (.goto (-9), 3) := by decide +kernel
theorem dX6_spellingFor_25 : decode cX6_spellingFor 25 = .ok (.iload_n 3, 1) := by decide +kernel
theorem dX6_spellingFor_26 : decode cX6_spellingFor 26 = .ok (.bipush (-15), 2) := by decide +kernel
theorem dX6_spellingFor_28 : decode cX6_spellingFor 28 = .ok (.if_icmp .ge 9, 3) := by decide +kernel
theorem dX6_spellingFor_31 : decode cX6_spellingFor 31 = .ok (.iinc 3 12, 3) := by decide +kernel
theorem dX6_spellingFor_34 : decode cX6_spellingFor 34 = .ok (.goto (-9), 3) := by decide +kernel
theorem dX6_spellingFor_37 : decode cX6_spellingFor 37 = .ok (.iload_n 3, 1) := by decide +kernel
theorem dX6_spellingFor_38 : decode cX6_spellingFor 38 = .ok (.ireturn, 1) := by decide +kernel
theorem dX6_keyTurn_0 : decode cX6_keyTurn 0 = .ok (.iload_n 1, 1) := by decide +kernel
theorem dX6_keyTurn_1 : decode cX6_keyTurn 1 = .ok (.aload_n 0, 1) := by decide +kernel
theorem dX6_keyTurn_2 : decode cX6_keyTurn 2 = .ok (.getfield 22, 3) := by decide +kernel
theorem dX6_keyTurn_5 : decode cX6_keyTurn 5 = .ok (.iadd, 1) := by decide +kernel
theorem dX6_keyTurn_6 : decode cX6_keyTurn 6 = .ok (.bipush 7, 2) := by decide +kernel
theorem dX6_keyTurn_8 : decode cX6_keyTurn 8 = .ok (.if_icmp .le 6, 3) := by decide +kernel
theorem dX6_keyTurn_11 : decode cX6_keyTurn 11 = .ok (.bipush (-12), 2) := by decide +kernel
theorem dX6_keyTurn_13 : decode cX6_keyTurn 13 = .ok (.ireturn, 1) := by decide +kernel
theorem dX6_keyTurn_14 : decode cX6_keyTurn 14 = .ok (.iload_n 1, 1) := by decide +kernel
theorem dX6_keyTurn_15 : decode cX6_keyTurn 15 = .ok (.aload_n 0, 1) := by decide +kernel
theorem dX6_keyTurn_16 : decode cX6_keyTurn 16 = .ok (.getfield 22, 3) := by decide +kernel
theorem dX6_keyTurn_19 : decode cX6_keyTurn 19 = .ok (.iadd, 1) := by decide +kernel
theorem dX6_keyTurn_20 : decode cX6_keyTurn 20 = .ok (.bipush (-7), 2) := by decide +kernel
theorem dX6_keyTurn_22 : decode cX6_keyTurn 22 = .ok (.if_icmp .ge 8, 3) := by decide +kernel
theorem dX6_keyTurn_25 : decode cX6_keyTurn 25 = .ok (.bipush 12, 2) := by decide +kernel
theorem dX6_keyTurn_27 : decode cX6_keyTurn 27 = .ok (.goto 4, 3) := by decide +kernel
theorem dX6_keyTurn_30 : decode cX6_keyTurn 30 = .ok (.iconst 0, 1) := by decide +kernel
theorem dX6_keyTurn_31 : decode cX6_keyTurn 31 = .ok (.ireturn, 1) := by decide +kernel
theorem kX6_init_12 : Cond.fieldLink RX6 12 (TX6 1).1 (TX6 1).2.1 (TX6 1).2.2.1 ∈ wsX6_init := by decide +kernel
theorem kX6_init_18 : Cond.fieldLink RX6 18 (TX6 0).1 (TX6 0).2.1 (TX6 0).2.2.1 ∈ wsX6_init := by decide +kernel
theorem iX6_init_X3 : ∀ w ∈ u_ws RX3 TX3 2, w ∈ wsX6_init := by decide +kernel
theorem iX6_init_X6 : ∀ w ∈ u_ws RX6 TX6 5, w ∈ wsX6_init := by decide +kernel
theorem kcX6_init_9 : Cond.classLink RX6 9 RX3 ∈ wsX6_init := by decide +kernel
theorem kqX6_init : Cond.code objectInit ⟨#[0xb1]⟩ 1 none ∈ wsX6_init := by decide +kernel
theorem kiX6_init_X3 : Cond.initialized RX3 ∈ wsX6_init := by decide +kernel
theorem ksX6_init_X3_init : Cond.initialized yX3_init.cls ∈ wsX6_init := by decide +kernel
theorem kpX6_init : Cond.instanceMethod objectInit ∈ wsX6_init := by decide +kernel
theorem knX6_init_X3_init : Cond.instanceMethod yX3_init ∈ wsX6_init := by decide +kernel
theorem ktX6_init_X3 : Cond.instantiable RX3 2 ∈ wsX6_init := by decide +kernel
theorem koX6_init : Cond.methodLink RX6 3 objectInit ∈ wsX6_init := by decide +kernel
theorem klX6_init_X3_init : Cond.methodLinkNest RX6 11 yX3_init RX7 ∈ q_nest := by decide +kernel
set_option maxHeartbeats 4000000 in
set_option maxRecDepth 100000 in
theorem RX6_init (l : Launch) (D : va_G) (g : q_A) (S : q_S) (a0 : Nat) (x1 : Int32) (Q : q_S → Prop) (h : wX6_init a0 x1 Q S) : q_Mv l yX6_init wsX6_init rmX6_init D g [.ref a0, .int x1] S Q := by
  refine q_Mv.of (cc := cX6_init) (nL := 2) (by decide +kernel) rfl (Nat.le_of_ble_eq_true rfl) rfl ?_
  intro p e s m args below meth c ls A C hr hnm hp hl
  have C : q_X p s m args meth c cX6_init 2 RX6 wsX6_init D g A := C
  have hx := C.1
  have hb := C.2.1
  have hl : q_l ls 2 [(0, .ref a0), (1, .int x1)] := hl
  unfold wX6_init at h
  refine lv_aload_n hx hb dX6_init_0 rfl (q_at hl 0 rfl) ?_
  refine q_objI C koX6_init kpX6_init kqX6_init hl.1.1 dX6_init_1 (Nat.le_of_ble_eq_true rfl) (Nat.le_of_ble_eq_true rfl) ?_
  refine lv_aload_n hx hb dX6_init_4 rfl (q_at hl 0 rfl) ?_
  refine q_rNO (N := 2) C hp h tyX3 tyX3_ok rfl iX6_init_X3 kcX6_init_9 ktX6_init_X3 kiX6_init_X3 (fun j hj => by match j, hj with | 0, _ => rfl | 1, _ => rfl | j + 2, hj => exact absurd hj (by omega)) (Nat.le_of_ble_eq_true rfl) (Nat.le_of_ble_eq_true rfl) dX6_init_5 (fun q_1 S_2 H h hp => ?_)
  refine W.widen (k := 1) (n := 2) (Nat.le_of_ble_eq_true rfl) (Nat.le_of_ble_eq_true rfl) ?_
  refine lv_dup hx hb dX6_init_8 rfl ?_
  refine q_finV C hp (q_runIN (As := []) (rest := [.ref q_1, .ref a0]) C hp (RX3_init l D g _ q_1 _ h _) ggX6_init_X3_init rfl klX6_init_X3_init ksX6_init_X3_init knX6_init_X3_init (by decide +kernel) ⟨(Nat.le_of_ble_eq_true rfl), (Nat.le_of_ble_eq_true rfl)⟩ rfl rfl hl.1.1 rfl (Nat.le_of_ble_eq_true rfl) dX6_init_9 ⟨(Nat.le_of_ble_eq_true rfl), (Nat.le_of_ble_eq_true rfl)⟩) (fun S_3 H locs h hp => ?_)
  refine W.widen (k := 3) (n := 1322) (Nat.le_of_ble_eq_true rfl) (Nat.le_of_ble_eq_true rfl) ?_
  refine q_fP C hp h hnm tyX6 tyX6_ok nmX6 rfl iX6_init_X6 (by decide) kX6_init_12 rfl rfl rfl rfl rfl dX6_init_12 (fun S_4 H locs h hp => ?_)
  refine lv_aload_n hx hb dX6_init_15 rfl (q_at hl 0 rfl) ?_
  refine lv_iload_n hx hb dX6_init_16 rfl (q_at hl 1 rfl) ?_
  refine q_fP C hp h hnm tyX6 tyX6_ok nmX6 rfl iX6_init_X6 (by decide) kX6_init_18 rfl rfl rfl rfl rfl dX6_init_17 (fun S_5 H locs h hp => ?_)
  refine W.widen (k := rmX6_init.cells) (n := rmX6_init.slots) (Nat.le_of_ble_eq_true rfl) (Nat.le_of_ble_eq_true rfl) ?_
  exact q_vret C hp hr h dX6_init_20
theorem kX6_keyTurn_22 : Cond.fieldLink RX6 22 (TX6 2).1 (TX6 2).2.1 (TX6 2).2.2.1 ∈ wsX6_keyTurn := by decide +kernel
theorem iX6_keyTurn_X6 : ∀ w ∈ u_ws RX6 TX6 5, w ∈ wsX6_keyTurn := by decide +kernel
set_option maxHeartbeats 4000000 in
set_option maxRecDepth 100000 in
theorem RX6_keyTurn (l : Launch) (D : va_G) (g : q_A) (S : q_S) (a0 : Nat) (x1 : Int32) (Q : Int32 → q_S → Prop) (h : wX6_keyTurn a0 x1 Q S) : q_Mi l yX6_keyTurn wsX6_keyTurn rmX6_keyTurn D g [.ref a0, .int x1] S Q := by
  refine q_Mi.of (cc := cX6_keyTurn) (nL := 2) (rt := .int) (by decide +kernel) rfl (Nat.le_of_ble_eq_true rfl) rfl ?_
  intro p e s m args below meth c ls A C hr hnm hp hl
  have C : q_X p s m args meth c cX6_keyTurn 2 RX6 wsX6_keyTurn D g A := C
  have hx := C.1
  have hb := C.2.1
  have hl : q_l ls 2 [(0, .ref a0), (1, .int x1)] := hl
  unfold wX6_keyTurn at h
  have h := h.2
  refine lv_iload_n hx hb dX6_keyTurn_0 rfl (q_at hl 1 rfl) ?_
  refine lv_aload_n hx hb dX6_keyTurn_1 rfl (q_at hl 0 rfl) ?_
  refine q_rGI C hp h rfl iX6_keyTurn_X6 (by decide) kX6_keyTurn_22 dX6_keyTurn_2 (fun v_1 h => ?_)
  refine lv_iadd hx hb dX6_keyTurn_5 ?_
  refine lv_bipush (v := 7) hx hb dX6_keyTurn_6 (by decide) ?_
  refine lv_icmp_le (tgt := 14) hx hb dX6_keyTurn_8 (by decide) (fun c_2 => ?_) (fun c_2 => ?_)
  · have h := h.1 c_2
    refine lv_iload_n hx hb dX6_keyTurn_14 rfl (q_at hl 1 rfl) ?_
    refine lv_aload_n hx hb dX6_keyTurn_15 rfl (q_at hl 0 rfl) ?_
    refine q_rGI C hp h rfl iX6_keyTurn_X6 (by decide) kX6_keyTurn_22 dX6_keyTurn_16 (fun v_3 h => ?_)
    refine lv_iadd hx hb dX6_keyTurn_19 ?_
    refine lv_bipush (v := (-7)) hx hb dX6_keyTurn_20 (by decide) ?_
    refine lv_icmp_ge (tgt := 30) hx hb dX6_keyTurn_22 (by decide) (fun c_4 => ?_) (fun c_4 => ?_)
    · have h := h.1 c_4
      refine lv_iconst (v := 0) hx hb dX6_keyTurn_30 (by decide) ?_
      exact q_iret C hp hr h dX6_keyTurn_31
    · have h := h.2 c_4
      refine lv_bipush (v := 12) hx hb dX6_keyTurn_25 (by decide) ?_
      refine lv_goto (tgt := 31) hx hb dX6_keyTurn_27 (by decide) ?_
      exact q_iret C hp hr h dX6_keyTurn_31
  · have h := h.2 c_2
    refine lv_bipush (v := (-12)) hx hb dX6_keyTurn_11 (by decide) ?_
    exact q_iret C hp hr h dX6_keyTurn_13
theorem kX6_keyFor_22 : Cond.fieldLink RX6 22 (TX6 2).1 (TX6 2).2.1 (TX6 2).2.2.1 ∈ wsX6_keyFor := by decide +kernel
theorem iX6_keyFor_X6 : ∀ w ∈ u_ws RX6 TX6 5, w ∈ wsX6_keyFor := by decide +kernel
set_option maxHeartbeats 4000000 in
set_option maxRecDepth 100000 in
theorem RX6_keyFor (l : Launch) (D : va_G) (g : q_A) (S : q_S) (a0 : Nat) (x1 : Int32) (Q : Int32 → q_S → Prop) (h : wX6_keyFor a0 x1 Q S) : q_Mi l yX6_keyFor wsX6_keyFor rmX6_keyFor D g [.ref a0, .int x1] S Q := by
  refine q_Mi.of (cc := cX6_keyFor) (nL := 2) (rt := .int) (by decide +kernel) rfl (Nat.le_of_ble_eq_true rfl) rfl ?_
  intro p e s m args below meth c ls A C hr hnm hp hl
  have C : q_X p s m args meth c cX6_keyFor 2 RX6 wsX6_keyFor D g A := C
  have hx := C.1
  have hb := C.2.1
  have hl : q_l ls 2 [(0, .ref a0), (1, .int x1)] := hl
  unfold wX6_keyFor at h
  have h := h.2
  refine lv_iload_n hx hb dX6_keyFor_0 rfl (q_at hl 1 rfl) ?_
  refine lv_aload_n hx hb dX6_keyFor_1 rfl (q_at hl 0 rfl) ?_
  refine q_rGI C hp h rfl iX6_keyFor_X6 (by decide) kX6_keyFor_22 dX6_keyFor_2 (fun v_1 h => ?_)
  refine lv_iadd hx hb dX6_keyFor_5 ?_
  refine lv_aload_n hx hb dX6_keyFor_6 rfl (q_at hl 0 rfl) ?_
  refine lv_iload_n hx hb dX6_keyFor_7 rfl (q_at hl 1 rfl) ?_
  refine q_finI0 C hp (q_runV (As := [.int x1]) (rest := [.int (x1 + v_1)]) C hp (RX6_keyTurn l D g _ a0 x1 _ h _) (cwV 1 C.2.2.2.2.1 gX6_keyFor_X6_keyTurn rfl rfl rfl (by decide +kernel) ⟨(Nat.le_of_ble_eq_true rfl), (Nat.le_of_ble_eq_true rfl)⟩) h.1 rfl rfl hl.1.1 rfl (Nat.le_of_ble_eq_true rfl) dX6_keyFor_8 ⟨(Nat.le_of_ble_eq_true rfl), (Nat.le_of_ble_eq_true rfl)⟩) rfl rfl (fun v_3 S_2 H locs h hp => ?_)
  refine lv_iadd hx hb dX6_keyFor_11 ?_
  exact q_iret C hp hr h dX6_keyFor_12
theorem kX6_pitchFor_22 : Cond.fieldLink RX6 22 (TX6 2).1 (TX6 2).2.1 (TX6 2).2.2.1 ∈ wsX6_pitchFor := by decide +kernel
theorem kX6_pitchFor_31 : Cond.fieldLink RX6 31 (TX6 3).1 (TX6 3).2.1 (TX6 3).2.2.1 ∈ wsX6_pitchFor := by decide +kernel
theorem iX6_pitchFor_X6 : ∀ w ∈ u_ws RX6 TX6 5, w ∈ wsX6_pitchFor := by decide +kernel
set_option maxHeartbeats 4000000 in
set_option maxRecDepth 100000 in
theorem RX6_pitchFor (l : Launch) (D : va_G) (g : q_A) (S : q_S) (a0 : Nat) (x1 : Int32) (Q : Int32 → q_S → Prop) (h : wX6_pitchFor a0 x1 Q S) : q_Mi l yX6_pitchFor wsX6_pitchFor rmX6_pitchFor D g [.ref a0, .int x1] S Q := by
  refine q_Mi.of (cc := cX6_pitchFor) (nL := 3) (rt := .int) (by decide +kernel) rfl (Nat.le_of_ble_eq_true rfl) rfl ?_
  intro p e s m args below meth c ls A C hr hnm hp hl
  have C : q_X p s m args meth c cX6_pitchFor 3 RX6 wsX6_pitchFor D g A := C
  have hx := C.1
  have hb := C.2.1
  have hl : q_l ls 3 [(0, .ref a0), (1, .int x1)] := hl
  have j28 : ∀ (a0 : Nat) (y0 : Int32) (y1 : Int32) (S : q_S) (H : Heap) (locs : List Loc) (ls : Array Slot), wX6_pitchFor_b28 Q a0 y0 y1 S → q_P D g A s.heap S H locs → q_l ls 3 [(0, .ref a0)] → W p l e rmX6_pitchFor s m args below meth c H locs 0 0 (MQ below (va_Qi Q (q_B D g A) A) args s rmX6_pitchFor.cells rmX6_pitchFor.slots A) (F0 m 28 ls [.int y1, .int y0]) := by
    intro a0 y0 y1 S H locs ls h hp hl
    unfold wX6_pitchFor_b28 at h
    refine lv_iadd hx hb dX6_pitchFor_28 ?_
    refine lv_bipush (v := 12) hx hb dX6_pitchFor_29 (by decide) ?_
    refine lv_aload_n hx hb dX6_pitchFor_31 rfl (q_at hl 0 rfl) ?_
    refine q_rGI C hp h rfl iX6_pitchFor_X6 (by decide) kX6_pitchFor_31 dX6_pitchFor_32 (fun v_1 h => ?_)
    refine lv_imul hx hb dX6_pitchFor_35 ?_
    refine lv_iadd hx hb dX6_pitchFor_36 ?_
    exact q_iret C hp hr h dX6_pitchFor_37
  unfold wX6_pitchFor at h
  have h := h.2
  refine lv_bipush (v := 7) hx hb dX6_pitchFor_0 (by decide) ?_
  refine lv_aload_n hx hb dX6_pitchFor_2 rfl (q_at hl 0 rfl) ?_
  refine q_rGI C hp h rfl iX6_pitchFor_X6 (by decide) kX6_pitchFor_22 dX6_pitchFor_3 (fun v_2 h => ?_)
  refine lv_imul hx hb dX6_pitchFor_6 ?_
  refine lv_bipush (v := 12) hx hb dX6_pitchFor_7 (by decide) ?_
  refine q_finI0 C hp (q_runS (As := [.int ((7 : Int32) * v_2), .int (12 : Int32)]) (rest := []) C hp (RJ9_floorMod_7cf53 l D g _ ((7 : Int32) * v_2) (12 : Int32) _ h _) (va_cwS 2 C.2.2.2.2.1 gX6_pitchFor_J9_floorMod_7cf53 rfl rfl rfl (by decide +kernel) ⟨(Nat.le_of_ble_eq_true rfl), (Nat.le_of_ble_eq_true rfl)⟩) rfl hl.1.1 rfl (Nat.le_of_ble_eq_true rfl) dX6_pitchFor_9 ⟨(Nat.le_of_ble_eq_true rfl), (Nat.le_of_ble_eq_true rfl)⟩) rfl rfl (fun v_4 S_3 H locs h hp => ?_)
  refine q_istn (lv' := [(2, .int v_4), (0, .ref a0), (1, .int x1)]) hx hb dX6_pitchFor_12 rfl hl (by decide) rfl (fun ls hl => ?_)
  refine lv_iload_n hx hb dX6_pitchFor_13 rfl (q_at hl 2 rfl) ?_
  refine lv_iload_n hx hb dX6_pitchFor_14 rfl (q_at hl 0 rfl) ?_
  refine lv_bipush (v := 6) hx hb dX6_pitchFor_15 (by decide) ?_
  refine lv_icmp_le (tgt := 27) hx hb dX6_pitchFor_17 (by decide) (fun c_5 => ?_) (fun c_5 => ?_)
  · have h := h.1 c_5
    refine lv_iload_n hx hb dX6_pitchFor_27 rfl (q_at hl 0 rfl) ?_
    exact j28 a0 x1 v_4 _ _ _ _ h hp (q_sub hl [1] rfl)
  · have h := h.2 c_5
    refine lv_iload_n hx hb dX6_pitchFor_20 rfl (q_at hl 0 rfl) ?_
    refine lv_bipush (v := 12) hx hb dX6_pitchFor_21 (by decide) ?_
    refine lv_isub hx hb dX6_pitchFor_23 ?_
    refine lv_goto (tgt := 28) hx hb dX6_pitchFor_24 (by decide) ?_
    exact j28 a0 x1 (v_4 - (12 : Int32)) _ _ _ _ h hp (q_sub hl [1] rfl)
theorem kX6_spellingFor_22 : Cond.fieldLink RX6 22 (TX6 2).1 (TX6 2).2.1 (TX6 2).2.2.1 ∈ wsX6_spellingFor := by decide +kernel
theorem iX6_spellingFor_X6 : ∀ w ∈ u_ws RX6 TX6 5, w ∈ wsX6_spellingFor := by decide +kernel
set_option maxHeartbeats 4000000 in
set_option maxRecDepth 100000 in
theorem RX6_spellingFor (l : Launch) (D : va_G) (g : q_A) (S : q_S) (a0 : Nat) (x1 : Int32) (x2 : Int32) (Q : Int32 → q_S → Prop) (h : wX6_spellingFor a0 x1 x2 Q S) : q_Mi l yX6_spellingFor wsX6_spellingFor rmX6_spellingFor D g [.ref a0, .int x1, .int x2] S Q := by
  refine q_Mi.of (cc := cX6_spellingFor) (nL := 4) (rt := .int) (by decide +kernel) rfl (Nat.le_of_ble_eq_true rfl) rfl ?_
  intro p e s m args below meth c ls A C hr hnm hp hl
  have C : q_X p s m args meth c cX6_spellingFor 4 RX6 wsX6_spellingFor D g A := C
  have hx := C.1
  have hb := C.2.1
  have hl : q_l ls 4 [(0, .ref a0), (1, .int x1), (2, .int x2)] := hl
  have j25 : ∀ (n : Nat), ∀ (x3 : Int32) (S : q_S) (H : Heap) (locs : List Loc) (ls : Array Slot), lX6_spellingFor_b25 Q n x3 S → q_P D g A s.heap S H locs → q_l ls 4 [(3, .int x3)] → W p l e rmX6_spellingFor s m args below meth c H locs 0 0 (MQ below (va_Qi Q (q_B D g A) A) args s rmX6_spellingFor.cells rmX6_spellingFor.slots A) (F0 m 25 ls []) := by
    intro n
    induction n with
    | zero => intro x3 S H locs ls h; exact absurd h (fun h => h)
    | succ n ih25 =>
      intro x3 S H locs ls h hp hl
      have h : wX6_spellingFor_b25 Q (lX6_spellingFor_b25 Q n) x3 S := h
      unfold wX6_spellingFor_b25 at h
      refine lv_iload_n hx hb dX6_spellingFor_25 rfl (q_at hl 0 rfl) ?_
      refine lv_bipush (v := (-15)) hx hb dX6_spellingFor_26 (by decide) ?_
      refine lv_icmp_ge (tgt := 37) hx hb dX6_spellingFor_28 (by decide) (fun c_1 => ?_) (fun c_1 => ?_)
      · have h := h.1 c_1
        refine lv_iload_n hx hb dX6_spellingFor_37 rfl (q_at hl 0 rfl) ?_
        exact q_iret C hp hr h dX6_spellingFor_38
      · have h := h.2 c_1
        refine q_inc (x := x3) (v := (x3 + (12 : Int32))) (lv' := [(3, .int (x3 + (12 : Int32)))]) hx hb dX6_spellingFor_31 hl (k := 0) rfl rfl (by decide) rfl (fun ls hl => ?_)
        refine lv_goto (tgt := 25) hx hb dX6_spellingFor_34 (by decide) ?_
        exact ih25 (x3 + (12 : Int32)) _ _ _ _ h hp (q_sub hl [0] rfl)
  have j13 : ∀ (n : Nat), ∀ (x3 : Int32) (S : q_S) (H : Heap) (locs : List Loc) (ls : Array Slot), lX6_spellingFor_b13 Q n x3 S → q_P D g A s.heap S H locs → q_l ls 4 [(3, .int x3)] → W p l e rmX6_spellingFor s m args below meth c H locs 0 0 (MQ below (va_Qi Q (q_B D g A) A) args s rmX6_spellingFor.cells rmX6_spellingFor.slots A) (F0 m 13 ls []) := by
    intro n
    induction n with
    | zero => intro x3 S H locs ls h; exact absurd h (fun h => h)
    | succ n ih13 =>
      intro x3 S H locs ls h hp hl
      have h : wX6_spellingFor_b13 Q (lX6_spellingFor_b13 Q n) x3 S := h
      unfold wX6_spellingFor_b13 at h
      refine lv_iload_n hx hb dX6_spellingFor_13 rfl (q_at hl 0 rfl) ?_
      refine lv_bipush (v := 19) hx hb dX6_spellingFor_14 (by decide) ?_
      refine lv_icmp_le (tgt := 25) hx hb dX6_spellingFor_16 (by decide) (fun c_2 => ?_) (fun c_2 => ?_)
      · have h := h.1 c_2
        exact j25 q_fuel x3 _ _ _ _ h hp (q_sub hl [0] rfl)
      · have h := h.2 c_2
        refine q_inc (x := x3) (v := (x3 + (-12 : Int32))) (lv' := [(3, .int (x3 + (-12 : Int32)))]) hx hb dX6_spellingFor_19 hl (k := 0) rfl rfl (by decide) rfl (fun ls hl => ?_)
        refine lv_goto (tgt := 13) hx hb dX6_spellingFor_22 (by decide) ?_
        exact ih13 (x3 + (-12 : Int32)) _ _ _ _ h hp (q_sub hl [0] rfl)
  unfold wX6_spellingFor at h
  have h := h.2
  refine lv_iload_n hx hb dX6_spellingFor_0 rfl (q_at hl 1 rfl) ?_
  refine lv_aload_n hx hb dX6_spellingFor_1 rfl (q_at hl 0 rfl) ?_
  refine q_rGI C hp h rfl iX6_spellingFor_X6 (by decide) kX6_spellingFor_22 dX6_spellingFor_2 (fun v_3 h => ?_)
  refine lv_iadd hx hb dX6_spellingFor_5 ?_
  refine lv_aload_n hx hb dX6_spellingFor_6 rfl (q_at hl 0 rfl) ?_
  refine lv_iload_n hx hb dX6_spellingFor_7 rfl (q_at hl 2 rfl) ?_
  refine q_finI0 C hp (q_runV (As := [.int x2]) (rest := [.int (x1 + v_3)]) C hp (RX6_keyTurn l D g _ a0 x2 _ h _) (cwV 1 C.2.2.2.2.1 gX6_spellingFor_X6_keyTurn rfl rfl rfl (by decide +kernel) ⟨(Nat.le_of_ble_eq_true rfl), (Nat.le_of_ble_eq_true rfl)⟩) h.1 rfl rfl hl.1.1 rfl (Nat.le_of_ble_eq_true rfl) dX6_spellingFor_8 ⟨(Nat.le_of_ble_eq_true rfl), (Nat.le_of_ble_eq_true rfl)⟩) rfl rfl (fun v_5 S_4 H locs h hp => ?_)
  refine lv_iadd hx hb dX6_spellingFor_11 ?_
  refine q_istn (lv' := [(3, .int ((x1 + v_3) + v_5)), (0, .ref a0), (1, .int x1), (2, .int x2)]) hx hb dX6_spellingFor_12 rfl hl (by decide) rfl (fun ls hl => ?_)
  exact j13 q_fuel ((x1 + v_3) + v_5) _ _ _ _ h hp (q_sub hl [0] rfl)
